example := @Jvm.Stand.arrayOver_alikeB
