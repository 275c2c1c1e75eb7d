/-! 09.words: the words that the methods use, by their places (written by wip/whole/gen/gen_parts.py) -/
theorem tw0 : (Jvm.Cond.selects "OpensAtNine$Reader" ({ cls := "OpensAtNine$Reader", name := "advance", desc := "()V" } : Jvm.MethodName) ({ cls := "OpensAtNine$Reader", name := "advance", desc := "()V" } : Jvm.MethodName)) ∈ XT := XTi 0 (by decide +kernel) rfl
theorem tw1 : (Jvm.Cond.selects "OpensAtNine$Reader" ({ cls := "OpensAtNine$Reader", name := "takeWord", desc := "()V" } : Jvm.MethodName) ({ cls := "OpensAtNine$Reader", name := "takeWord", desc := "()V" } : Jvm.MethodName)) ∈ XT := XTi 1 (by decide +kernel) rfl
theorem tw2 : (Jvm.Cond.selects "OpensAtNine$Reader" ({ cls := "OpensAtNine$Reader", name := "spells", desc := "(Ljava/lang/String;)Z" } : Jvm.MethodName) ({ cls := "OpensAtNine$Reader", name := "spells", desc := "(Ljava/lang/String;)Z" } : Jvm.MethodName)) ∈ XT := XTi 2 (by decide +kernel) rfl
theorem tw3 : (Jvm.Cond.selects "OpensAtNine$Reader" ({ cls := "OpensAtNine$Reader", name := "takeNumber", desc := "()V" } : Jvm.MethodName) ({ cls := "OpensAtNine$Reader", name := "takeNumber", desc := "()V" } : Jvm.MethodName)) ∈ XT := XTi 3 (by decide +kernel) rfl
theorem tw4 : (Jvm.Cond.selects "OpensAtNine$Reader" ({ cls := "OpensAtNine$Reader", name := "takeSign", desc := "(I)V" } : Jvm.MethodName) ({ cls := "OpensAtNine$Reader", name := "takeSign", desc := "(I)V" } : Jvm.MethodName)) ∈ XT := XTi 4 (by decide +kernel) rfl
theorem tw5 : (Jvm.Cond.selects "OpensAtNine$Reader" ({ cls := "OpensAtNine$Reader", name := "readPart", desc := "(II)Z" } : Jvm.MethodName) ({ cls := "OpensAtNine$Reader", name := "readPart", desc := "(II)Z" } : Jvm.MethodName)) ∈ XT := XTi 5 (by decide +kernel) rfl
theorem tw6 : (Jvm.Cond.selects "OpensAtNine$Reader" ({ cls := "OpensAtNine$Reader", name := "pass", desc := "(I)Z" } : Jvm.MethodName) ({ cls := "OpensAtNine$Reader", name := "pass", desc := "(I)Z" } : Jvm.MethodName)) ∈ XT := XTi 6 (by decide +kernel) rfl
theorem tw7 : (Jvm.Cond.selects "OpensAtNine$Reader" ({ cls := "OpensAtNine$Reader", name := "readEither", desc := "()Z" } : Jvm.MethodName) ({ cls := "OpensAtNine$Reader", name := "readEither", desc := "()Z" } : Jvm.MethodName)) ∈ XT := XTi 7 (by decide +kernel) rfl
theorem tw8 : (Jvm.Cond.selects "OpensAtNine$Reader" ({ cls := "OpensAtNine$Reader", name := "readBoth", desc := "()Z" } : Jvm.MethodName) ({ cls := "OpensAtNine$Reader", name := "readBoth", desc := "()Z" } : Jvm.MethodName)) ∈ XT := XTi 8 (by decide +kernel) rfl
theorem tw9 : (Jvm.Cond.selects "OpensAtNine$Reader" ({ cls := "OpensAtNine$Reader", name := "readNot", desc := "()Z" } : Jvm.MethodName) ({ cls := "OpensAtNine$Reader", name := "readNot", desc := "()Z" } : Jvm.MethodName)) ∈ XT := XTi 9 (by decide +kernel) rfl
theorem tw10 : (Jvm.Cond.selects "OpensAtNine$Reader" ({ cls := "OpensAtNine$Reader", name := "readCompared", desc := "()Z" } : Jvm.MethodName) ({ cls := "OpensAtNine$Reader", name := "readCompared", desc := "()Z" } : Jvm.MethodName)) ∈ XT := XTi 10 (by decide +kernel) rfl
theorem tw11 : (Jvm.Cond.selects "OpensAtNine$Reader" ({ cls := "OpensAtNine$Reader", name := "readSum", desc := "()Z" } : Jvm.MethodName) ({ cls := "OpensAtNine$Reader", name := "readSum", desc := "()Z" } : Jvm.MethodName)) ∈ XT := XTi 11 (by decide +kernel) rfl
theorem tw12 : (Jvm.Cond.selects "OpensAtNine$Reader" ({ cls := "OpensAtNine$Reader", name := "readTerm", desc := "()Z" } : Jvm.MethodName) ({ cls := "OpensAtNine$Reader", name := "readTerm", desc := "()Z" } : Jvm.MethodName)) ∈ XT := XTi 12 (by decide +kernel) rfl
theorem tw13 : (Jvm.Cond.selects "OpensAtNine$Reader" ({ cls := "OpensAtNine$Reader", name := "readOne", desc := "()Z" } : Jvm.MethodName) ({ cls := "OpensAtNine$Reader", name := "readOne", desc := "()Z" } : Jvm.MethodName)) ∈ XT := XTi 13 (by decide +kernel) rfl
theorem tw14 : (Jvm.Cond.selects "OpensAtNine$Reader" ({ cls := "OpensAtNine$Reader", name := "addStep", desc := "(I)V" } : Jvm.MethodName) ({ cls := "OpensAtNine$Reader", name := "addStep", desc := "(I)V" } : Jvm.MethodName)) ∈ XT := XTi 14 (by decide +kernel) rfl
theorem tw15 : (Jvm.Cond.selects "OpensAtNine$Reader" ({ cls := "OpensAtNine$Reader", name := "enter", desc := "()Z" } : Jvm.MethodName) ({ cls := "OpensAtNine$Reader", name := "enter", desc := "()Z" } : Jvm.MethodName)) ∈ XT := XTi 15 (by decide +kernel) rfl
theorem tw16 : (Jvm.Cond.selects "OpensAtNine$Coin" ({ cls := "OpensAtNine$Coin", name := "worn", desc := "()I" } : Jvm.MethodName) ({ cls := "OpensAtNine$Coin", name := "worn", desc := "()I" } : Jvm.MethodName)) ∈ XT := XTi 16 (by decide +kernel) rfl
theorem tw17 : (Jvm.Cond.selects "OpensAtNine$Ways" ({ cls := "OpensAtNine$Ways", name := "goOn", desc := "(III)V" } : Jvm.MethodName) ({ cls := "OpensAtNine$Ways", name := "goOn", desc := "(III)V" } : Jvm.MethodName)) ∈ XT := XTi 17 (by decide +kernel) rfl
theorem tw18 : (Jvm.Cond.selects "OpensAtNine$Ways" ({ cls := "OpensAtNine$Ways", name := "addRests", desc := "(III)V" } : Jvm.MethodName) ({ cls := "OpensAtNine$Ways", name := "addRests", desc := "(III)V" } : Jvm.MethodName)) ∈ XT := XTi 18 (by decide +kernel) rfl
theorem tw19 : (Jvm.Cond.selects "OpensAtNine" ({ cls := "OpensAtNine", name := "isGift", desc := "(II)Z" } : Jvm.MethodName) ({ cls := "OpensAtNine", name := "isGift", desc := "(II)Z" } : Jvm.MethodName)) ∈ XT := XTi 19 (by decide +kernel) rfl
theorem tw20 : (Jvm.Cond.selects "OpensAtNine$Turns" ({ cls := "OpensAtNine$Turns", name := "solve", desc := "(I)V" } : Jvm.MethodName) ({ cls := "OpensAtNine$Turns", name := "solve", desc := "(I)V" } : Jvm.MethodName)) ∈ XT := XTi 20 (by decide +kernel) rfl
theorem tw21 : (Jvm.Cond.selects "OpensAtNine$Turns" ({ cls := "OpensAtNine$Turns", name := "settle", desc := "(I)V" } : Jvm.MethodName) ({ cls := "OpensAtNine$Turns", name := "settle", desc := "(I)V" } : Jvm.MethodName)) ∈ XT := XTi 21 (by decide +kernel) rfl
theorem tw22 : (Jvm.Cond.selects "OpensAtNine$Turns" ({ cls := "OpensAtNine$Turns", name := "recall", desc := "(II)V" } : Jvm.MethodName) ({ cls := "OpensAtNine$Turns", name := "recall", desc := "(II)V" } : Jvm.MethodName)) ∈ XT := XTi 22 (by decide +kernel) rfl
theorem tw23 : (Jvm.Cond.selects "OpensAtNine$Turns" ({ cls := "OpensAtNine$Turns", name := "choose", desc := "(IIII)V" } : Jvm.MethodName) ({ cls := "OpensAtNine$Turns", name := "choose", desc := "(IIII)V" } : Jvm.MethodName)) ∈ XT := XTi 23 (by decide +kernel) rfl
theorem tw24 : (Jvm.Cond.selects "OpensAtNine$Turns" ({ cls := "OpensAtNine$Turns", name := "keep", desc := "(II)V" } : Jvm.MethodName) ({ cls := "OpensAtNine$Turns", name := "keep", desc := "(II)V" } : Jvm.MethodName)) ∈ XT := XTi 24 (by decide +kernel) rfl
theorem tw25 : (Jvm.Cond.selects "OpensAtNine" ({ cls := "OpensAtNine", name := "refusedStart", desc := "(II)I" } : Jvm.MethodName) ({ cls := "OpensAtNine", name := "refusedStart", desc := "(II)I" } : Jvm.MethodName)) ∈ XT := XTi 25 (by decide +kernel) rfl
theorem tw26 : (Jvm.Cond.selects "OpensAtNine" ({ cls := "OpensAtNine", name := "refusedRows", desc := "(I)I" } : Jvm.MethodName) ({ cls := "OpensAtNine", name := "refusedRows", desc := "(I)I" } : Jvm.MethodName)) ∈ XT := XTi 26 (by decide +kernel) rfl
theorem tw27 : (Jvm.Cond.selects "OpensAtNine$Sheet" ({ cls := "OpensAtNine$Sheet", name := "isSoBy", desc := "(II)Z" } : Jvm.MethodName) ({ cls := "OpensAtNine$Sheet", name := "isSoBy", desc := "(II)Z" } : Jvm.MethodName)) ∈ XT := XTi 27 (by decide +kernel) rfl
theorem tw28 : (Jvm.Cond.selects "OpensAtNine" ({ cls := "OpensAtNine", name := "firstWrong", desc := "(LOpensAtNine$Sheet;II)I" } : Jvm.MethodName) ({ cls := "OpensAtNine", name := "firstWrong", desc := "(LOpensAtNine$Sheet;II)I" } : Jvm.MethodName)) ∈ XT := XTi 28 (by decide +kernel) rfl
theorem tw29 : (Jvm.Cond.selects "OpensAtNine" ({ cls := "OpensAtNine", name := "insideBy", desc := "(I)I" } : Jvm.MethodName) ({ cls := "OpensAtNine", name := "insideBy", desc := "(I)I" } : Jvm.MethodName)) ∈ XT := XTi 29 (by decide +kernel) rfl
theorem tw30 : (Jvm.Cond.selects "OpensAtNineModel" ({ cls := "OpensAtNineModel", name := "next", desc := "()V" } : Jvm.MethodName) ({ cls := "OpensAtNineModel", name := "next", desc := "()V" } : Jvm.MethodName)) ∈ XT := XTi 30 (by decide +kernel) rfl
theorem tw31 : (Jvm.Cond.selects "OpensAtNineModel" ({ cls := "OpensAtNineModel", name := "wordFrom", desc := "(II)I" } : Jvm.MethodName) ({ cls := "OpensAtNineModel", name := "wordFrom", desc := "(II)I" } : Jvm.MethodName)) ∈ XT := XTi 31 (by decide +kernel) rfl
theorem tw32 : (Jvm.Cond.selects "OpensAtNineModel" ({ cls := "OpensAtNineModel", name := "eRead", desc := "()Z" } : Jvm.MethodName) ({ cls := "OpensAtNineModel", name := "eRead", desc := "()Z" } : Jvm.MethodName)) ∈ XT := XTi 32 (by decide +kernel) rfl
theorem tw33 : (Jvm.Cond.selects "OpensAtNineModel" ({ cls := "OpensAtNineModel", name := "puts", desc := "(I)V" } : Jvm.MethodName) ({ cls := "OpensAtNineModel", name := "puts", desc := "(I)V" } : Jvm.MethodName)) ∈ XT := XTi 33 (by decide +kernel) rfl
theorem tw34 : (Jvm.Cond.selects "OpensAtNineModel" ({ cls := "OpensAtNineModel", name := "unwinds", desc := "(I)V" } : Jvm.MethodName) ({ cls := "OpensAtNineModel", name := "unwinds", desc := "(I)V" } : Jvm.MethodName)) ∈ XT := XTi 34 (by decide +kernel) rfl
theorem tw35 : (Jvm.Cond.selects "OpensAtNineModel" ({ cls := "OpensAtNineModel", name := "opensOne", desc := "(I)Z" } : Jvm.MethodName) ({ cls := "OpensAtNineModel", name := "opensOne", desc := "(I)Z" } : Jvm.MethodName)) ∈ XT := XTi 35 (by decide +kernel) rfl
theorem tw36 : (Jvm.Cond.selects "OpensAtNineModel" ({ cls := "OpensAtNineModel", name := "holds", desc := "(I)V" } : Jvm.MethodName) ({ cls := "OpensAtNineModel", name := "holds", desc := "(I)V" } : Jvm.MethodName)) ∈ XT := XTi 36 (by decide +kernel) rfl
theorem tw37 : (Jvm.Cond.selects "OpensAtNineModel" ({ cls := "OpensAtNineModel", name := "signOf", desc := "()I" } : Jvm.MethodName) ({ cls := "OpensAtNineModel", name := "signOf", desc := "()I" } : Jvm.MethodName)) ∈ XT := XTi 37 (by decide +kernel) rfl
theorem tw38 : (Jvm.Cond.selects "OpensAtNineModel" ({ cls := "OpensAtNineModel", name := "between", desc := "(I)Z" } : Jvm.MethodName) ({ cls := "OpensAtNineModel", name := "between", desc := "(I)Z" } : Jvm.MethodName)) ∈ XT := XTi 38 (by decide +kernel) rfl
theorem tw39 : (Jvm.Cond.selects "OpensAtNineModel" ({ cls := "OpensAtNineModel", name := "isOne", desc := "(I)Z" } : Jvm.MethodName) ({ cls := "OpensAtNineModel", name := "isOne", desc := "(I)Z" } : Jvm.MethodName)) ∈ XT := XTi 39 (by decide +kernel) rfl
theorem tw40 : (Jvm.Cond.selects "OpensAtNineModel" ({ cls := "OpensAtNineModel", name := "asksOf", desc := "(IIIIII)I" } : Jvm.MethodName) ({ cls := "OpensAtNineModel", name := "asksOf", desc := "(IIIIII)I" } : Jvm.MethodName)) ∈ XT := XTi 40 (by decide +kernel) rfl
theorem tw41 : (Jvm.Cond.selects "OpensAtNineModel" ({ cls := "OpensAtNineModel", name := "worksOut", desc := "(IIIIII)I" } : Jvm.MethodName) ({ cls := "OpensAtNineModel", name := "worksOut", desc := "(IIIIII)I" } : Jvm.MethodName)) ∈ XT := XTi 41 (by decide +kernel) rfl
theorem tw42 : (Jvm.Cond.selects "OpensAtNineModel" ({ cls := "OpensAtNineModel", name := "says", desc := "(I)I" } : Jvm.MethodName) ({ cls := "OpensAtNineModel", name := "says", desc := "(I)I" } : Jvm.MethodName)) ∈ XT := XTi 42 (by decide +kernel) rfl
theorem tw43 : (Jvm.Cond.selects "OpensAtNineModel" ({ cls := "OpensAtNineModel", name := "isCoin", desc := "(I)Z" } : Jvm.MethodName) ({ cls := "OpensAtNineModel", name := "isCoin", desc := "(I)Z" } : Jvm.MethodName)) ∈ XT := XTi 43 (by decide +kernel) rfl
theorem tw44 : (Jvm.Cond.selects "OpensAtNineModel" ({ cls := "OpensAtNineModel", name := "isLeft", desc := "(I)Z" } : Jvm.MethodName) ({ cls := "OpensAtNineModel", name := "isLeft", desc := "(I)Z" } : Jvm.MethodName)) ∈ XT := XTi 44 (by decide +kernel) rfl
theorem tw45 : (Jvm.Cond.selects "OpensAtNineModel" ({ cls := "OpensAtNineModel", name := "countsNow", desc := "(I)I" } : Jvm.MethodName) ({ cls := "OpensAtNineModel", name := "countsNow", desc := "(I)I" } : Jvm.MethodName)) ∈ XT := XTi 45 (by decide +kernel) rfl
theorem tw46 : (Jvm.Cond.selects "OpensAtNineModel" ({ cls := "OpensAtNineModel", name := "costsOf", desc := "(I)I" } : Jvm.MethodName) ({ cls := "OpensAtNineModel", name := "costsOf", desc := "(I)I" } : Jvm.MethodName)) ∈ XT := XTi 46 (by decide +kernel) rfl
theorem tw47 : (Jvm.Cond.selects "OpensAtNineModel" ({ cls := "OpensAtNineModel", name := "canPut", desc := "(I)Z" } : Jvm.MethodName) ({ cls := "OpensAtNineModel", name := "canPut", desc := "(I)Z" } : Jvm.MethodName)) ∈ XT := XTi 47 (by decide +kernel) rfl
theorem tw48 : (Jvm.Cond.selects "OpensAtNineModel" ({ cls := "OpensAtNineModel", name := "isInside", desc := "(I)Z" } : Jvm.MethodName) ({ cls := "OpensAtNineModel", name := "isInside", desc := "(I)Z" } : Jvm.MethodName)) ∈ XT := XTi 48 (by decide +kernel) rfl
theorem tw49 : (Jvm.Cond.selects "OpensAtNineModel" ({ cls := "OpensAtNineModel", name := "paysIn", desc := "(I)Z" } : Jvm.MethodName) ({ cls := "OpensAtNineModel", name := "paysIn", desc := "(I)Z" } : Jvm.MethodName)) ∈ XT := XTi 49 (by decide +kernel) rfl
theorem tw50 : (Jvm.Cond.selects "OpensAtNineModel" ({ cls := "OpensAtNineModel", name := "leftOf", desc := "(I)I" } : Jvm.MethodName) ({ cls := "OpensAtNineModel", name := "leftOf", desc := "(I)I" } : Jvm.MethodName)) ∈ XT := XTi 50 (by decide +kernel) rfl
theorem tw51 : (Jvm.Cond.selects "OpensAtNineModel" ({ cls := "OpensAtNineModel", name := "worthOf", desc := "(I)I" } : Jvm.MethodName) ({ cls := "OpensAtNineModel", name := "worthOf", desc := "(I)I" } : Jvm.MethodName)) ∈ XT := XTi 51 (by decide +kernel) rfl
theorem tw52 : (Jvm.Cond.selects "OpensAtNineModel" ({ cls := "OpensAtNineModel", name := "findsCheapest", desc := "(I)V" } : Jvm.MethodName) ({ cls := "OpensAtNineModel", name := "findsCheapest", desc := "(I)V" } : Jvm.MethodName)) ∈ XT := XTi 52 (by decide +kernel) rfl
theorem tw53 : (Jvm.Cond.selects "OpensAtNineModel" ({ cls := "OpensAtNineModel", name := "waysIn", desc := "(IIII)V" } : Jvm.MethodName) ({ cls := "OpensAtNineModel", name := "waysIn", desc := "(IIII)V" } : Jvm.MethodName)) ∈ XT := XTi 53 (by decide +kernel) rfl
theorem tw54 : (Jvm.Cond.selects "OpensAtNineModel" ({ cls := "OpensAtNineModel", name := "keeps", desc := "(I)V" } : Jvm.MethodName) ({ cls := "OpensAtNineModel", name := "keeps", desc := "(I)V" } : Jvm.MethodName)) ∈ XT := XTi 54 (by decide +kernel) rfl
theorem tw55 : (Jvm.Cond.selects "OpensAtNineModel" ({ cls := "OpensAtNineModel", name := "laysBack", desc := "(I)V" } : Jvm.MethodName) ({ cls := "OpensAtNineModel", name := "laysBack", desc := "(I)V" } : Jvm.MethodName)) ∈ XT := XTi 55 (by decide +kernel) rfl
theorem tw56 : (Jvm.Cond.selects "OpensAtNineModel" ({ cls := "OpensAtNineModel", name := "goesCheapest", desc := "()V" } : Jvm.MethodName) ({ cls := "OpensAtNineModel", name := "goesCheapest", desc := "()V" } : Jvm.MethodName)) ∈ XT := XTi 56 (by decide +kernel) rfl
theorem tw57 : (Jvm.Cond.selects "OpensAtNineModel" ({ cls := "OpensAtNineModel", name := "restsFrom", desc := "(II)V" } : Jvm.MethodName) ({ cls := "OpensAtNineModel", name := "restsFrom", desc := "(II)V" } : Jvm.MethodName)) ∈ XT := XTi 57 (by decide +kernel) rfl
theorem tw58 : (Jvm.Cond.selects "OpensAtNineModel" ({ cls := "OpensAtNineModel", name := "wouldOpen", desc := "(II)Z" } : Jvm.MethodName) ({ cls := "OpensAtNineModel", name := "wouldOpen", desc := "(II)Z" } : Jvm.MethodName)) ∈ XT := XTi 58 (by decide +kernel) rfl
theorem tw59 : (Jvm.Cond.selects "OpensAtNineModel" ({ cls := "OpensAtNineModel", name := "isGift", desc := "(I)Z" } : Jvm.MethodName) ({ cls := "OpensAtNineModel", name := "isGift", desc := "(I)Z" } : Jvm.MethodName)) ∈ XT := XTi 59 (by decide +kernel) rfl
theorem tw60 : (Jvm.Cond.selects "OpensAtNineModel" ({ cls := "OpensAtNineModel", name := "goesByTurns", desc := "(I)V" } : Jvm.MethodName) ({ cls := "OpensAtNineModel", name := "goesByTurns", desc := "(I)V" } : Jvm.MethodName)) ∈ XT := XTi 60 (by decide +kernel) rfl
theorem tw61 : (Jvm.Cond.selects "OpensAtNineModel" ({ cls := "OpensAtNineModel", name := "turns", desc := "(II)V" } : Jvm.MethodName) ({ cls := "OpensAtNineModel", name := "turns", desc := "(II)V" } : Jvm.MethodName)) ∈ XT := XTi 61 (by decide +kernel) rfl
theorem tw62 : (Jvm.Cond.selects "OpensAtNineModel" ({ cls := "OpensAtNineModel", name := "endsNow", desc := "(I)V" } : Jvm.MethodName) ({ cls := "OpensAtNineModel", name := "endsNow", desc := "(I)V" } : Jvm.MethodName)) ∈ XT := XTi 62 (by decide +kernel) rfl
theorem tw63 : (Jvm.Cond.selects "OpensAtNineModel" ({ cls := "OpensAtNineModel", name := "takes", desc := "(IIIIZ)V" } : Jvm.MethodName) ({ cls := "OpensAtNineModel", name := "takes", desc := "(IIIIZ)V" } : Jvm.MethodName)) ∈ XT := XTi 63 (by decide +kernel) rfl
theorem tw64 : (Jvm.Cond.selects "OpensAtNineModel" ({ cls := "OpensAtNineModel", name := "sheetWrong", desc := "(I)I" } : Jvm.MethodName) ({ cls := "OpensAtNineModel", name := "sheetWrong", desc := "(I)I" } : Jvm.MethodName)) ∈ XT := XTi 64 (by decide +kernel) rfl
theorem tw65 : (Jvm.Cond.selects "OpensAtNineModel" ({ cls := "OpensAtNineModel", name := "numbersFor", desc := "(II)I" } : Jvm.MethodName) ({ cls := "OpensAtNineModel", name := "numbersFor", desc := "(II)I" } : Jvm.MethodName)) ∈ XT := XTi 65 (by decide +kernel) rfl
theorem tw66 : (Jvm.Cond.selects "OpensAtNineModel" ({ cls := "OpensAtNineModel", name := "unlike", desc := "(I)I" } : Jvm.MethodName) ({ cls := "OpensAtNineModel", name := "unlike", desc := "(I)I" } : Jvm.MethodName)) ∈ XT := XTi 66 (by decide +kernel) rfl
theorem tw67 : (Jvm.Cond.selects "OpensAtNineModel" ({ cls := "OpensAtNineModel", name := "insideBy", desc := "(I)I" } : Jvm.MethodName) ({ cls := "OpensAtNineModel", name := "insideBy", desc := "(I)I" } : Jvm.MethodName)) ∈ XT := XTi 67 (by decide +kernel) rfl
theorem tw69 : (Jvm.Cond.initialized "OpensAtNine") ∈ XT := XT1 1 rfl rfl
theorem tw70 : (Jvm.Cond.initialized "OpensAtNine$Gate") ∈ XT := XT1 2 rfl rfl
theorem tw71 : (Jvm.Cond.initialized "OpensAtNine$Met") ∈ XT := XT1 3 rfl rfl
theorem tw72 : (Jvm.Cond.initialized "OpensAtNine$Ways") ∈ XT := XT1 4 rfl rfl
theorem tw73 : (Jvm.Cond.initialized "OpensAtNine$Turns") ∈ XT := XT1 5 rfl rfl
theorem tw74 : (Jvm.Cond.initialized "OpensAtNine$Reader") ∈ XT := XT1 6 rfl rfl
theorem tw75 : (Jvm.Cond.initialized "OpensAtNine$Sheet") ∈ XT := XT1 7 rfl rfl
theorem tw76 : (Jvm.Cond.initialized "java/lang/String") ∈ XT := XT1 8 rfl rfl
theorem tw77 : (Jvm.Cond.initialized "java/lang/StringLatin1") ∈ XT := XT1 9 rfl rfl
theorem tw78 : (Jvm.Cond.initialized "jdk/internal/util/Preconditions") ∈ XT := XT1 10 rfl rfl
theorem tw80 : (Jvm.Cond.initialized "OpensAtNine$Text") ∈ XT := XT1 12 rfl rfl
theorem tw81 : (Jvm.Cond.initialized "java/util/Arrays") ∈ XT := XT1 13 rfl rfl
theorem tw82 : (Jvm.Cond.initialized "java/lang/Math") ∈ XT := XT1 14 rfl rfl
theorem tw83 : (Jvm.Cond.initialized "java/lang/System") ∈ XT := XT1 15 rfl rfl
theorem tw84 : (Jvm.Cond.initialized "OpensAtNineModel") ∈ XT := XT1 16 rfl rfl
theorem tw85 : (Jvm.Cond.initialized "OpensAtNine$Coin") ∈ XT := XT1 17 rfl rfl
theorem tw86 : (Jvm.Cond.initialized "java/lang/Integer") ∈ XT := XT1 18 rfl rfl
theorem tw87 : (Jvm.Cond.classLink "OpensAtNineLaw" (7 : Nat) "OpensAtNine") ∈ XT := XT1 19 rfl rfl
theorem tw88 : (Jvm.Cond.instantiable "OpensAtNine" (11 : Nat)) ∈ XT := XT1 20 rfl rfl
theorem tw89 : (Jvm.Cond.methodLink "OpensAtNineLaw" (9 : Nat) ({ cls := "OpensAtNine", name := "<init>", desc := "()V" } : Jvm.MethodName)) ∈ XT := XT1 21 rfl rfl
theorem tw90 : (Jvm.Cond.instanceMethod ({ cls := "OpensAtNine", name := "<init>", desc := "()V" } : Jvm.MethodName)) ∈ XT := XT1 22 rfl rfl
theorem tw91 : (Jvm.Cond.code ({ cls := "OpensAtNine", name := "<init>", desc := "()V" } : Jvm.MethodName) prog_1_method_1_code (5 : Nat) (Option.none : Option Jvm.ClassFile.FieldType)) ∈ XT := XT1 23 rfl rfl
theorem tw92 : (Jvm.Cond.methodLink "OpensAtNine" (1 : Nat) ({ cls := "java/lang/Object", name := "<init>", desc := "()V" } : Jvm.MethodName)) ∈ XT := XT1 24 rfl rfl
theorem tw93 : (Jvm.Cond.instanceMethod ({ cls := "java/lang/Object", name := "<init>", desc := "()V" } : Jvm.MethodName)) ∈ XT := XT1 25 rfl rfl
theorem tw94 : (Jvm.Cond.code ({ cls := "java/lang/Object", name := "<init>", desc := "()V" } : Jvm.MethodName) object_method_1_code (1 : Nat) (Option.none : Option Jvm.ClassFile.FieldType)) ∈ XT := XT1 26 rfl rfl
theorem tw95 : (Jvm.Cond.classLink "OpensAtNine" (9 : Nat) "OpensAtNine$Coin") ∈ XT := XT1 27 rfl rfl
theorem tw97 : (Jvm.Cond.classLink "OpensAtNine" (11 : Nat) "OpensAtNine$Text") ∈ XT := XT1 29 rfl rfl
theorem tw99 : (Jvm.Cond.classLink "OpensAtNine" (21 : Nat) "OpensAtNine$Gate") ∈ XT := XT1 31 rfl rfl
theorem tw100 : (Jvm.Cond.instantiable "OpensAtNine$Gate" (12 : Nat)) ∈ XT := XT1 32 rfl rfl
theorem tw101 : (Jvm.Cond.methodLink "OpensAtNine" (23 : Nat) ({ cls := "OpensAtNine$Gate", name := "<init>", desc := "([LOpensAtNine$Coin;[LOpensAtNine$Text;)V" } : Jvm.MethodName)) ∈ XT := XT1 33 rfl rfl
theorem tw102 : (Jvm.Cond.instanceMethod ({ cls := "OpensAtNine$Gate", name := "<init>", desc := "([LOpensAtNine$Coin;[LOpensAtNine$Text;)V" } : Jvm.MethodName)) ∈ XT := XT1 34 rfl rfl
theorem tw103 : (Jvm.Cond.code ({ cls := "OpensAtNine$Gate", name := "<init>", desc := "([LOpensAtNine$Coin;[LOpensAtNine$Text;)V" } : Jvm.MethodName) prog_3_method_1_code (3 : Nat) (Option.none : Option Jvm.ClassFile.FieldType)) ∈ XT := XT1 35 rfl rfl
theorem tw104 : (Jvm.Cond.methodLink "OpensAtNine$Gate" (3 : Nat) ({ cls := "java/lang/Object", name := "<init>", desc := "()V" } : Jvm.MethodName)) ∈ XT := XT1 36 rfl rfl
theorem tw158 : (Jvm.Cond.arrayClass Jvm.ClassFile.FieldType.int) ∈ XT := XT1 90 rfl rfl
theorem tw159 : (Jvm.Cond.classLink "OpensAtNine" (36 : Nat) "OpensAtNine$Met") ∈ XT := XT1 91 rfl rfl
theorem tw160 : (Jvm.Cond.instantiable "OpensAtNine$Met" (1 : Nat)) ∈ XT := XT1 92 rfl rfl
theorem tw162 : (Jvm.Cond.instanceMethod ({ cls := "OpensAtNine$Met", name := "<init>", desc := "()V" } : Jvm.MethodName)) ∈ XT := XT1 94 rfl rfl
theorem tw163 : (Jvm.Cond.code ({ cls := "OpensAtNine$Met", name := "<init>", desc := "()V" } : Jvm.MethodName) prog_4_method_1_code (1 : Nat) (Option.none : Option Jvm.ClassFile.FieldType)) ∈ XT := XT1 95 rfl rfl
theorem tw164 : (Jvm.Cond.methodLink "OpensAtNine$Met" (1 : Nat) ({ cls := "java/lang/Object", name := "<init>", desc := "()V" } : Jvm.MethodName)) ∈ XT := XT1 96 rfl rfl
theorem tw169 : (Jvm.Cond.classLink "OpensAtNine" (39 : Nat) "OpensAtNine$Ways") ∈ XT := XT1 101 rfl rfl
theorem tw170 : (Jvm.Cond.instantiable "OpensAtNine$Ways" (6 : Nat)) ∈ XT := XT1 102 rfl rfl
theorem tw171 : (Jvm.Cond.methodLink "OpensAtNine" (41 : Nat) ({ cls := "OpensAtNine$Ways", name := "<init>", desc := "(LOpensAtNine$Gate;LOpensAtNine$Met;)V" } : Jvm.MethodName)) ∈ XT := XT1 103 rfl rfl
theorem tw172 : (Jvm.Cond.instanceMethod ({ cls := "OpensAtNine$Ways", name := "<init>", desc := "(LOpensAtNine$Gate;LOpensAtNine$Met;)V" } : Jvm.MethodName)) ∈ XT := XT1 104 rfl rfl
theorem tw173 : (Jvm.Cond.code ({ cls := "OpensAtNine$Ways", name := "<init>", desc := "(LOpensAtNine$Gate;LOpensAtNine$Met;)V" } : Jvm.MethodName) prog_9_method_1_code (3 : Nat) (Option.none : Option Jvm.ClassFile.FieldType)) ∈ XT := XT1 105 rfl rfl
theorem tw174 : (Jvm.Cond.methodLink "OpensAtNine$Ways" (3 : Nat) ({ cls := "java/lang/Object", name := "<init>", desc := "()V" } : Jvm.MethodName)) ∈ XT := XT1 106 rfl rfl
theorem tw195 : (Jvm.Cond.classLink "OpensAtNine" (48 : Nat) "OpensAtNine$Turns") ∈ XT := XT1 127 rfl rfl
theorem tw196 : (Jvm.Cond.instantiable "OpensAtNine$Turns" (7 : Nat)) ∈ XT := XT1 128 rfl rfl
theorem tw197 : (Jvm.Cond.methodLink "OpensAtNine" (50 : Nat) ({ cls := "OpensAtNine$Turns", name := "<init>", desc := "(LOpensAtNine$Gate;LOpensAtNine$Met;)V" } : Jvm.MethodName)) ∈ XT := XT1 129 rfl rfl
theorem tw198 : (Jvm.Cond.instanceMethod ({ cls := "OpensAtNine$Turns", name := "<init>", desc := "(LOpensAtNine$Gate;LOpensAtNine$Met;)V" } : Jvm.MethodName)) ∈ XT := XT1 130 rfl rfl
theorem tw199 : (Jvm.Cond.code ({ cls := "OpensAtNine$Turns", name := "<init>", desc := "(LOpensAtNine$Gate;LOpensAtNine$Met;)V" } : Jvm.MethodName) prog_8_method_1_code (3 : Nat) (Option.none : Option Jvm.ClassFile.FieldType)) ∈ XT := XT1 131 rfl rfl
theorem tw200 : (Jvm.Cond.methodLink "OpensAtNine$Turns" (3 : Nat) ({ cls := "java/lang/Object", name := "<init>", desc := "()V" } : Jvm.MethodName)) ∈ XT := XT1 132 rfl rfl
theorem tw201 : (Jvm.Cond.classLink "OpensAtNine$Turns" (9 : Nat) "[[I") ∈ XT := XT1 133 rfl rfl
theorem tw225 : (Jvm.Cond.classLink "OpensAtNine" (55 : Nat) "OpensAtNine$Reader") ∈ XT := XT1 157 rfl rfl
theorem tw226 : (Jvm.Cond.instantiable "OpensAtNine$Reader" (11 : Nat)) ∈ XT := XT1 158 rfl rfl
theorem tw228 : (Jvm.Cond.instanceMethod ({ cls := "OpensAtNine$Reader", name := "<init>", desc := "()V" } : Jvm.MethodName)) ∈ XT := XT1 160 rfl rfl
theorem tw229 : (Jvm.Cond.code ({ cls := "OpensAtNine$Reader", name := "<init>", desc := "()V" } : Jvm.MethodName) prog_5_method_1_code (1 : Nat) (Option.none : Option Jvm.ClassFile.FieldType)) ∈ XT := XT1 161 rfl rfl
theorem tw230 : (Jvm.Cond.methodLink "OpensAtNine$Reader" (3 : Nat) ({ cls := "java/lang/Object", name := "<init>", desc := "()V" } : Jvm.MethodName)) ∈ XT := XT1 162 rfl rfl
theorem tw267 : (Jvm.Cond.classLink "OpensAtNine" (62 : Nat) "OpensAtNine$Sheet") ∈ XT := XT1 199 rfl rfl
theorem tw269 : (Jvm.Cond.instantiable "OpensAtNine$Sheet" (3 : Nat)) ∈ XT := XT1 201 rfl rfl
theorem tw271 : (Jvm.Cond.instanceMethod ({ cls := "OpensAtNine$Sheet", name := "<init>", desc := "()V" } : Jvm.MethodName)) ∈ XT := XT1 203 rfl rfl
theorem tw272 : (Jvm.Cond.code ({ cls := "OpensAtNine$Sheet", name := "<init>", desc := "()V" } : Jvm.MethodName) prog_6_method_1_code (1 : Nat) (Option.none : Option Jvm.ClassFile.FieldType)) ∈ XT := XT1 204 rfl rfl
theorem tw273 : (Jvm.Cond.methodLink "OpensAtNine$Sheet" (3 : Nat) ({ cls := "java/lang/Object", name := "<init>", desc := "()V" } : Jvm.MethodName)) ∈ XT := XT1 205 rfl rfl
theorem tw288 : (Jvm.Cond.methodLink "OpensAtNine" (71 : Nat) ({ cls := "OpensAtNine$Reader", name := "write", desc := "(Ljava/lang/String;)V" } : Jvm.MethodName)) ∈ XT := XT1 220 rfl rfl
theorem tw289 : (Jvm.Cond.instanceMethod ({ cls := "OpensAtNine$Reader", name := "write", desc := "(Ljava/lang/String;)V" } : Jvm.MethodName)) ∈ XT := XT1 221 rfl rfl
theorem tw290 : (Jvm.Cond.selects "OpensAtNine$Reader" ({ cls := "OpensAtNine$Reader", name := "write", desc := "(Ljava/lang/String;)V" } : Jvm.MethodName) ({ cls := "OpensAtNine$Reader", name := "write", desc := "(Ljava/lang/String;)V" } : Jvm.MethodName)) ∈ XT := XT1 222 rfl rfl
theorem tw291 : (Jvm.Cond.code ({ cls := "OpensAtNine$Reader", name := "write", desc := "(Ljava/lang/String;)V" } : Jvm.MethodName) prog_5_method_3_code (3 : Nat) (Option.none : Option Jvm.ClassFile.FieldType)) ∈ XT := XT1 223 rfl rfl
theorem tw292 : (Jvm.Cond.methodLink "OpensAtNine$Reader" (25 : Nat) ({ cls := "java/lang/String", name := "length", desc := "()I" } : Jvm.MethodName)) ∈ XT := XT1 224 rfl rfl
theorem tw293 : (Jvm.Cond.instanceMethod ({ cls := "java/lang/String", name := "length", desc := "()I" } : Jvm.MethodName)) ∈ XT := XT1 225 rfl rfl
theorem tw294 : (Jvm.Cond.selects "java/lang/String" ({ cls := "java/lang/String", name := "length", desc := "()I" } : Jvm.MethodName) ({ cls := "java/lang/String", name := "length", desc := "()I" } : Jvm.MethodName)) ∈ XT := XT1 226 rfl rfl
theorem tw295 : (Jvm.Cond.code ({ cls := "java/lang/String", name := "length", desc := "()I" } : Jvm.MethodName) prog_15_method_54_code (1 : Nat) (Option.some Jvm.ClassFile.FieldType.int)) ∈ XT := XT1 227 rfl rfl
theorem tw296 : (Jvm.Cond.methodLink "java/lang/String" (335 : Nat) ({ cls := "java/lang/String", name := "coder", desc := "()B" } : Jvm.MethodName)) ∈ XT := XT1 228 rfl rfl
theorem tw297 : (Jvm.Cond.instanceMethod ({ cls := "java/lang/String", name := "coder", desc := "()B" } : Jvm.MethodName)) ∈ XT := XT1 229 rfl rfl
theorem tw298 : (Jvm.Cond.selects "java/lang/String" ({ cls := "java/lang/String", name := "coder", desc := "()B" } : Jvm.MethodName) ({ cls := "java/lang/String", name := "coder", desc := "()B" } : Jvm.MethodName)) ∈ XT := XT1 230 rfl rfl
theorem tw299 : (Jvm.Cond.code ({ cls := "java/lang/String", name := "coder", desc := "()B" } : Jvm.MethodName) prog_15_method_152_code (1 : Nat) (Option.some Jvm.ClassFile.FieldType.byte)) ∈ XT := XT1 231 rfl rfl
theorem tw300 : (Jvm.Cond.fieldLink "java/lang/String" (38 : Nat) "java/lang/String" "COMPACT_STRINGS" "Z") ∈ XT := XT1 232 rfl rfl
theorem tw302 : (Jvm.Cond.methodLink "OpensAtNine$Reader" (31 : Nat) ({ cls := "java/lang/String", name := "charAt", desc := "(I)C" } : Jvm.MethodName)) ∈ XT := XT1 234 rfl rfl
theorem tw303 : (Jvm.Cond.instanceMethod ({ cls := "java/lang/String", name := "charAt", desc := "(I)C" } : Jvm.MethodName)) ∈ XT := XT1 235 rfl rfl
theorem tw304 : (Jvm.Cond.selects "java/lang/String" ({ cls := "java/lang/String", name := "charAt", desc := "(I)C" } : Jvm.MethodName) ({ cls := "java/lang/String", name := "charAt", desc := "(I)C" } : Jvm.MethodName)) ∈ XT := XT1 236 rfl rfl
theorem tw305 : (Jvm.Cond.code ({ cls := "java/lang/String", name := "charAt", desc := "(I)C" } : Jvm.MethodName) prog_15_method_56_code (2 : Nat) (Option.some Jvm.ClassFile.FieldType.char)) ∈ XT := XT1 237 rfl rfl
theorem tw306 : (Jvm.Cond.methodLink "java/lang/String" (492 : Nat) ({ cls := "java/lang/String", name := "isLatin1", desc := "()Z" } : Jvm.MethodName)) ∈ XT := XT1 238 rfl rfl
theorem tw307 : (Jvm.Cond.instanceMethod ({ cls := "java/lang/String", name := "isLatin1", desc := "()Z" } : Jvm.MethodName)) ∈ XT := XT1 239 rfl rfl
theorem tw308 : (Jvm.Cond.selects "java/lang/String" ({ cls := "java/lang/String", name := "isLatin1", desc := "()Z" } : Jvm.MethodName) ({ cls := "java/lang/String", name := "isLatin1", desc := "()Z" } : Jvm.MethodName)) ∈ XT := XT2 0 rfl rfl
theorem tw309 : (Jvm.Cond.code ({ cls := "java/lang/String", name := "isLatin1", desc := "()Z" } : Jvm.MethodName) prog_15_method_154_code (1 : Nat) (Option.some Jvm.ClassFile.FieldType.boolean)) ∈ XT := XT2 1 rfl rfl
theorem tw310 : (Jvm.Cond.methodLink "java/lang/String" (495 : Nat) ({ cls := "java/lang/StringLatin1", name := "charAt", desc := "([BI)C" } : Jvm.MethodName)) ∈ XT := XT2 2 rfl rfl
theorem tw311 : (Jvm.Cond.static ({ cls := "java/lang/StringLatin1", name := "charAt", desc := "([BI)C" } : Jvm.MethodName)) ∈ XT := XT2 3 rfl rfl
theorem tw312 : (Jvm.Cond.code ({ cls := "java/lang/StringLatin1", name := "charAt", desc := "([BI)C" } : Jvm.MethodName) prog_16_method_2_code (2 : Nat) (Option.some Jvm.ClassFile.FieldType.char)) ∈ XT := XT2 4 rfl rfl
theorem tw313 : (Jvm.Cond.methodLink "java/lang/StringLatin1" (9 : Nat) ({ cls := "java/lang/String", name := "checkIndex", desc := "(II)V" } : Jvm.MethodName)) ∈ XT := XT2 5 rfl rfl
theorem tw314 : (Jvm.Cond.static ({ cls := "java/lang/String", name := "checkIndex", desc := "(II)V" } : Jvm.MethodName)) ∈ XT := XT2 6 rfl rfl
theorem tw315 : (Jvm.Cond.code ({ cls := "java/lang/String", name := "checkIndex", desc := "(II)V" } : Jvm.MethodName) prog_15_method_155_code (2 : Nat) (Option.none : Option Jvm.ClassFile.FieldType)) ∈ XT := XT2 7 rfl rfl
theorem tw316 : (Jvm.Cond.fieldLink "java/lang/String" (1053 : Nat) "jdk/internal/util/Preconditions" "SIOOBE_FORMATTER" "Ljava/util/function/BiFunction;") ∈ XT := XT2 8 rfl rfl
theorem tw318 : (Jvm.Cond.methodLink "java/lang/String" (1059 : Nat) ({ cls := "jdk/internal/util/Preconditions", name := "checkIndex", desc := "(IILjava/util/function/BiFunction;)I" } : Jvm.MethodName)) ∈ XT := XT2 10 rfl rfl
theorem tw319 : (Jvm.Cond.static ({ cls := "jdk/internal/util/Preconditions", name := "checkIndex", desc := "(IILjava/util/function/BiFunction;)I" } : Jvm.MethodName)) ∈ XT := XT2 11 rfl rfl
theorem tw320 : (Jvm.Cond.code ({ cls := "jdk/internal/util/Preconditions", name := "checkIndex", desc := "(IILjava/util/function/BiFunction;)I" } : Jvm.MethodName) prog_20_method_11_code (3 : Nat) (Option.some Jvm.ClassFile.FieldType.int)) ∈ XT := XT2 12 rfl rfl
theorem tw340 : (Jvm.Cond.methodLink "OpensAtNine$Reader" (35 : Nat) ({ cls := "OpensAtNine$Reader", name := "add", desc := "(I)V" } : Jvm.MethodName)) ∈ XT := XT2 32 rfl rfl
theorem tw341 : (Jvm.Cond.instanceMethod ({ cls := "OpensAtNine$Reader", name := "add", desc := "(I)V" } : Jvm.MethodName)) ∈ XT := XT2 33 rfl rfl
theorem tw342 : (Jvm.Cond.selects "OpensAtNine$Reader" ({ cls := "OpensAtNine$Reader", name := "add", desc := "(I)V" } : Jvm.MethodName) ({ cls := "OpensAtNine$Reader", name := "add", desc := "(I)V" } : Jvm.MethodName)) ∈ XT := XT2 34 rfl rfl
theorem tw343 : (Jvm.Cond.code ({ cls := "OpensAtNine$Reader", name := "add", desc := "(I)V" } : Jvm.MethodName) prog_5_method_2_code (2 : Nat) (Option.none : Option Jvm.ClassFile.FieldType)) ∈ XT := XT2 35 rfl rfl
theorem tw344 : (Jvm.Cond.methodLink "OpensAtNine" (75 : Nat) ({ cls := "OpensAtNine$Reader", name := "readText", desc := "()LOpensAtNine$Text;" } : Jvm.MethodName)) ∈ XT := XT2 36 rfl rfl
theorem tw345 : (Jvm.Cond.instanceMethod ({ cls := "OpensAtNine$Reader", name := "readText", desc := "()LOpensAtNine$Text;" } : Jvm.MethodName)) ∈ XT := XT2 37 rfl rfl
theorem tw346 : (Jvm.Cond.selects "OpensAtNine$Reader" ({ cls := "OpensAtNine$Reader", name := "readText", desc := "()LOpensAtNine$Text;" } : Jvm.MethodName) ({ cls := "OpensAtNine$Reader", name := "readText", desc := "()LOpensAtNine$Text;" } : Jvm.MethodName)) ∈ XT := XT2 38 rfl rfl
theorem tw347 : (Jvm.Cond.code ({ cls := "OpensAtNine$Reader", name := "readText", desc := "()LOpensAtNine$Text;" } : Jvm.MethodName) prog_5_method_4_code (2 : Nat) (Option.some (Jvm.ClassFile.FieldType.object "OpensAtNine$Text"))) ∈ XT := XT2 39 rfl rfl
theorem tw348 : (Jvm.Cond.methodLink "OpensAtNine$Reader" (48 : Nat) ({ cls := "OpensAtNine$Reader", name := "advance", desc := "()V" } : Jvm.MethodName)) ∈ XT := XT2 40 rfl rfl
theorem tw350 : (Jvm.Cond.instanceMethod ({ cls := "OpensAtNine$Reader", name := "advance", desc := "()V" } : Jvm.MethodName)) ∈ XT := XT2 42 rfl rfl
theorem tw351 : (Jvm.Cond.code ({ cls := "OpensAtNine$Reader", name := "advance", desc := "()V" } : Jvm.MethodName) prog_5_method_16_code (1 : Nat) (Option.none : Option Jvm.ClassFile.FieldType)) ∈ XT := XT2 43 rfl rfl
theorem tw352 : (Jvm.Cond.methodLink "OpensAtNine$Reader" (110 : Nat) ({ cls := "OpensAtNine$Reader", name := "isLetter", desc := "(I)Z" } : Jvm.MethodName)) ∈ XT := XT2 44 rfl rfl
theorem tw353 : (Jvm.Cond.static ({ cls := "OpensAtNine$Reader", name := "isLetter", desc := "(I)Z" } : Jvm.MethodName)) ∈ XT := XT2 45 rfl rfl
theorem tw354 : (Jvm.Cond.code ({ cls := "OpensAtNine$Reader", name := "isLetter", desc := "(I)Z" } : Jvm.MethodName) prog_5_method_21_code (1 : Nat) (Option.some Jvm.ClassFile.FieldType.boolean)) ∈ XT := XT2 46 rfl rfl
theorem tw355 : (Jvm.Cond.methodLink "OpensAtNine$Reader" (113 : Nat) ({ cls := "OpensAtNine$Reader", name := "takeWord", desc := "()V" } : Jvm.MethodName)) ∈ XT := XT2 47 rfl rfl
theorem tw357 : (Jvm.Cond.instanceMethod ({ cls := "OpensAtNine$Reader", name := "takeWord", desc := "()V" } : Jvm.MethodName)) ∈ XT := XT2 49 rfl rfl
theorem tw358 : (Jvm.Cond.code ({ cls := "OpensAtNine$Reader", name := "takeWord", desc := "()V" } : Jvm.MethodName) prog_5_method_17_code (2 : Nat) (Option.none : Option Jvm.ClassFile.FieldType)) ∈ XT := XT2 50 rfl rfl
theorem tw359 : (Jvm.Cond.methodLink "OpensAtNine$Reader" (125 : Nat) ({ cls := "OpensAtNine$Reader", name := "wordAt", desc := "(I)Ljava/lang/String;" } : Jvm.MethodName)) ∈ XT := XT2 51 rfl rfl
theorem tw360 : (Jvm.Cond.static ({ cls := "OpensAtNine$Reader", name := "wordAt", desc := "(I)Ljava/lang/String;" } : Jvm.MethodName)) ∈ XT := XT2 52 rfl rfl
theorem tw361 : (Jvm.Cond.code ({ cls := "OpensAtNine$Reader", name := "wordAt", desc := "(I)Ljava/lang/String;" } : Jvm.MethodName) prog_5_method_23_code (1 : Nat) (Option.some (Jvm.ClassFile.FieldType.object "java/lang/String"))) ∈ XT := XT2 53 rfl rfl
theorem tw374 : (Jvm.Cond.methodLink "OpensAtNine$Reader" (129 : Nat) ({ cls := "OpensAtNine$Reader", name := "spells", desc := "(Ljava/lang/String;)Z" } : Jvm.MethodName)) ∈ XT := XT2 66 rfl rfl
theorem tw376 : (Jvm.Cond.instanceMethod ({ cls := "OpensAtNine$Reader", name := "spells", desc := "(Ljava/lang/String;)Z" } : Jvm.MethodName)) ∈ XT := XT2 68 rfl rfl
theorem tw377 : (Jvm.Cond.code ({ cls := "OpensAtNine$Reader", name := "spells", desc := "(Ljava/lang/String;)Z" } : Jvm.MethodName) prog_5_method_18_code (3 : Nat) (Option.some Jvm.ClassFile.FieldType.boolean)) ∈ XT := XT2 69 rfl rfl
theorem tw378 : (Jvm.Cond.methodLink "OpensAtNine$Reader" (116 : Nat) ({ cls := "OpensAtNine$Reader", name := "isDigit", desc := "(I)Z" } : Jvm.MethodName)) ∈ XT := XT2 70 rfl rfl
theorem tw379 : (Jvm.Cond.static ({ cls := "OpensAtNine$Reader", name := "isDigit", desc := "(I)Z" } : Jvm.MethodName)) ∈ XT := XT2 71 rfl rfl
theorem tw380 : (Jvm.Cond.code ({ cls := "OpensAtNine$Reader", name := "isDigit", desc := "(I)Z" } : Jvm.MethodName) prog_5_method_22_code (1 : Nat) (Option.some Jvm.ClassFile.FieldType.boolean)) ∈ XT := XT2 72 rfl rfl
theorem tw381 : (Jvm.Cond.methodLink "OpensAtNine$Reader" (119 : Nat) ({ cls := "OpensAtNine$Reader", name := "takeNumber", desc := "()V" } : Jvm.MethodName)) ∈ XT := XT2 73 rfl rfl
theorem tw383 : (Jvm.Cond.instanceMethod ({ cls := "OpensAtNine$Reader", name := "takeNumber", desc := "()V" } : Jvm.MethodName)) ∈ XT := XT2 75 rfl rfl
theorem tw384 : (Jvm.Cond.code ({ cls := "OpensAtNine$Reader", name := "takeNumber", desc := "()V" } : Jvm.MethodName) prog_5_method_19_code (1 : Nat) (Option.none : Option Jvm.ClassFile.FieldType)) ∈ XT := XT2 76 rfl rfl
theorem tw385 : (Jvm.Cond.methodLink "OpensAtNine$Reader" (122 : Nat) ({ cls := "OpensAtNine$Reader", name := "takeSign", desc := "(I)V" } : Jvm.MethodName)) ∈ XT := XT2 77 rfl rfl
theorem tw387 : (Jvm.Cond.instanceMethod ({ cls := "OpensAtNine$Reader", name := "takeSign", desc := "(I)V" } : Jvm.MethodName)) ∈ XT := XT2 79 rfl rfl
theorem tw388 : (Jvm.Cond.code ({ cls := "OpensAtNine$Reader", name := "takeSign", desc := "(I)V" } : Jvm.MethodName) prog_5_method_20_code (2 : Nat) (Option.none : Option Jvm.ClassFile.FieldType)) ∈ XT := XT2 80 rfl rfl
theorem tw389 : (Jvm.Cond.methodLink "OpensAtNine$Reader" (51 : Nat) ({ cls := "OpensAtNine$Reader", name := "readPart", desc := "(II)Z" } : Jvm.MethodName)) ∈ XT := XT2 81 rfl rfl
theorem tw391 : (Jvm.Cond.instanceMethod ({ cls := "OpensAtNine$Reader", name := "readPart", desc := "(II)Z" } : Jvm.MethodName)) ∈ XT := XT2 83 rfl rfl
theorem tw392 : (Jvm.Cond.code ({ cls := "OpensAtNine$Reader", name := "readPart", desc := "(II)Z" } : Jvm.MethodName) prog_5_method_5_code (3 : Nat) (Option.some Jvm.ClassFile.FieldType.boolean)) ∈ XT := XT2 84 rfl rfl
theorem tw393 : (Jvm.Cond.methodLink "OpensAtNine$Reader" (75 : Nat) ({ cls := "OpensAtNine$Reader", name := "pass", desc := "(I)Z" } : Jvm.MethodName)) ∈ XT := XT2 85 rfl rfl
theorem tw395 : (Jvm.Cond.instanceMethod ({ cls := "OpensAtNine$Reader", name := "pass", desc := "(I)Z" } : Jvm.MethodName)) ∈ XT := XT2 87 rfl rfl
theorem tw396 : (Jvm.Cond.code ({ cls := "OpensAtNine$Reader", name := "pass", desc := "(I)Z" } : Jvm.MethodName) prog_5_method_14_code (2 : Nat) (Option.some Jvm.ClassFile.FieldType.boolean)) ∈ XT := XT2 88 rfl rfl
theorem tw397 : (Jvm.Cond.methodLink "OpensAtNine$Reader" (79 : Nat) ({ cls := "OpensAtNine$Reader", name := "readEither", desc := "()Z" } : Jvm.MethodName)) ∈ XT := XT2 89 rfl rfl
theorem tw399 : (Jvm.Cond.instanceMethod ({ cls := "OpensAtNine$Reader", name := "readEither", desc := "()Z" } : Jvm.MethodName)) ∈ XT := XT2 91 rfl rfl
theorem tw400 : (Jvm.Cond.code ({ cls := "OpensAtNine$Reader", name := "readEither", desc := "()Z" } : Jvm.MethodName) prog_5_method_6_code (2 : Nat) (Option.some Jvm.ClassFile.FieldType.boolean)) ∈ XT := XT2 92 rfl rfl
theorem tw401 : (Jvm.Cond.methodLink "OpensAtNine$Reader" (83 : Nat) ({ cls := "OpensAtNine$Reader", name := "readBoth", desc := "()Z" } : Jvm.MethodName)) ∈ XT := XT2 93 rfl rfl
theorem tw403 : (Jvm.Cond.instanceMethod ({ cls := "OpensAtNine$Reader", name := "readBoth", desc := "()Z" } : Jvm.MethodName)) ∈ XT := XT2 95 rfl rfl
theorem tw404 : (Jvm.Cond.code ({ cls := "OpensAtNine$Reader", name := "readBoth", desc := "()Z" } : Jvm.MethodName) prog_5_method_7_code (2 : Nat) (Option.some Jvm.ClassFile.FieldType.boolean)) ∈ XT := XT2 96 rfl rfl
theorem tw405 : (Jvm.Cond.methodLink "OpensAtNine$Reader" (89 : Nat) ({ cls := "OpensAtNine$Reader", name := "readNot", desc := "()Z" } : Jvm.MethodName)) ∈ XT := XT2 97 rfl rfl
theorem tw407 : (Jvm.Cond.instanceMethod ({ cls := "OpensAtNine$Reader", name := "readNot", desc := "()Z" } : Jvm.MethodName)) ∈ XT := XT2 99 rfl rfl
theorem tw408 : (Jvm.Cond.code ({ cls := "OpensAtNine$Reader", name := "readNot", desc := "()Z" } : Jvm.MethodName) prog_5_method_8_code (1 : Nat) (Option.some Jvm.ClassFile.FieldType.boolean)) ∈ XT := XT2 100 rfl rfl
theorem tw409 : (Jvm.Cond.methodLink "OpensAtNine$Reader" (92 : Nat) ({ cls := "OpensAtNine$Reader", name := "readCompared", desc := "()Z" } : Jvm.MethodName)) ∈ XT := XT2 101 rfl rfl
theorem tw411 : (Jvm.Cond.instanceMethod ({ cls := "OpensAtNine$Reader", name := "readCompared", desc := "()Z" } : Jvm.MethodName)) ∈ XT := XT2 103 rfl rfl
theorem tw412 : (Jvm.Cond.code ({ cls := "OpensAtNine$Reader", name := "readCompared", desc := "()Z" } : Jvm.MethodName) prog_5_method_9_code (2 : Nat) (Option.some Jvm.ClassFile.FieldType.boolean)) ∈ XT := XT2 104 rfl rfl
theorem tw413 : (Jvm.Cond.methodLink "OpensAtNine$Reader" (98 : Nat) ({ cls := "OpensAtNine$Reader", name := "readSum", desc := "()Z" } : Jvm.MethodName)) ∈ XT := XT2 105 rfl rfl
theorem tw415 : (Jvm.Cond.instanceMethod ({ cls := "OpensAtNine$Reader", name := "readSum", desc := "()Z" } : Jvm.MethodName)) ∈ XT := XT2 107 rfl rfl
theorem tw416 : (Jvm.Cond.code ({ cls := "OpensAtNine$Reader", name := "readSum", desc := "()Z" } : Jvm.MethodName) prog_5_method_10_code (3 : Nat) (Option.some Jvm.ClassFile.FieldType.boolean)) ∈ XT := XT2 108 rfl rfl
theorem tw417 : (Jvm.Cond.methodLink "OpensAtNine$Reader" (101 : Nat) ({ cls := "OpensAtNine$Reader", name := "readTerm", desc := "()Z" } : Jvm.MethodName)) ∈ XT := XT2 109 rfl rfl
theorem tw419 : (Jvm.Cond.instanceMethod ({ cls := "OpensAtNine$Reader", name := "readTerm", desc := "()Z" } : Jvm.MethodName)) ∈ XT := XT2 111 rfl rfl
theorem tw420 : (Jvm.Cond.code ({ cls := "OpensAtNine$Reader", name := "readTerm", desc := "()Z" } : Jvm.MethodName) prog_5_method_11_code (2 : Nat) (Option.some Jvm.ClassFile.FieldType.boolean)) ∈ XT := XT2 112 rfl rfl
theorem tw421 : (Jvm.Cond.methodLink "OpensAtNine$Reader" (104 : Nat) ({ cls := "OpensAtNine$Reader", name := "readOne", desc := "()Z" } : Jvm.MethodName)) ∈ XT := XT2 113 rfl rfl
theorem tw423 : (Jvm.Cond.instanceMethod ({ cls := "OpensAtNine$Reader", name := "readOne", desc := "()Z" } : Jvm.MethodName)) ∈ XT := XT2 115 rfl rfl
theorem tw424 : (Jvm.Cond.code ({ cls := "OpensAtNine$Reader", name := "readOne", desc := "()Z" } : Jvm.MethodName) prog_5_method_12_code (1 : Nat) (Option.some Jvm.ClassFile.FieldType.boolean)) ∈ XT := XT2 116 rfl rfl
theorem tw425 : (Jvm.Cond.methodLink "OpensAtNine$Reader" (86 : Nat) ({ cls := "OpensAtNine$Reader", name := "addStep", desc := "(I)V" } : Jvm.MethodName)) ∈ XT := XT2 117 rfl rfl
theorem tw427 : (Jvm.Cond.instanceMethod ({ cls := "OpensAtNine$Reader", name := "addStep", desc := "(I)V" } : Jvm.MethodName)) ∈ XT := XT2 119 rfl rfl
theorem tw428 : (Jvm.Cond.code ({ cls := "OpensAtNine$Reader", name := "addStep", desc := "(I)V" } : Jvm.MethodName) prog_5_method_15_code (2 : Nat) (Option.none : Option Jvm.ClassFile.FieldType)) ∈ XT := XT2 120 rfl rfl
theorem tw429 : (Jvm.Cond.methodLink "OpensAtNine$Reader" (95 : Nat) ({ cls := "OpensAtNine$Reader", name := "enter", desc := "()Z" } : Jvm.MethodName)) ∈ XT := XT2 121 rfl rfl
theorem tw431 : (Jvm.Cond.instanceMethod ({ cls := "OpensAtNine$Reader", name := "enter", desc := "()Z" } : Jvm.MethodName)) ∈ XT := XT2 123 rfl rfl
theorem tw432 : (Jvm.Cond.code ({ cls := "OpensAtNine$Reader", name := "enter", desc := "()Z" } : Jvm.MethodName) prog_5_method_13_code (1 : Nat) (Option.some Jvm.ClassFile.FieldType.boolean)) ∈ XT := XT2 124 rfl rfl
theorem tw433 : (Jvm.Cond.classLink "OpensAtNine$Reader" (64 : Nat) "OpensAtNine$Text") ∈ XT := XT2 125 rfl rfl
theorem tw434 : (Jvm.Cond.instantiable "OpensAtNine$Text" (3 : Nat)) ∈ XT := XT2 126 rfl rfl
theorem tw435 : (Jvm.Cond.methodLink "OpensAtNine$Reader" (66 : Nat) ({ cls := "java/util/Arrays", name := "copyOf", desc := "([II)[I" } : Jvm.MethodName)) ∈ XT := XT2 127 rfl rfl
theorem tw436 : (Jvm.Cond.static ({ cls := "java/util/Arrays", name := "copyOf", desc := "([II)[I" } : Jvm.MethodName)) ∈ XT := XT2 128 rfl rfl
theorem tw437 : (Jvm.Cond.code ({ cls := "java/util/Arrays", name := "copyOf", desc := "([II)[I" } : Jvm.MethodName) prog_19_method_123_code (3 : Nat) (Option.some (Jvm.ClassFile.FieldType.array Jvm.ClassFile.FieldType.int))) ∈ XT := XT2 129 rfl rfl
theorem tw438 : (Jvm.Cond.methodLink "java/util/Arrays" (316 : Nat) ({ cls := "[I", name := "clone", desc := "()Ljava/lang/Object;" } : Jvm.MethodName)) ∈ XT := XT2 130 rfl rfl
theorem tw439 : (Jvm.Cond.sameMethod "[I" "java/lang/Object" "clone" "()Ljava/lang/Object;") ∈ XT := XT2 131 rfl rfl
theorem tw440 : (Jvm.Cond.native ({ cls := "java/lang/Object", name := "clone", desc := "()Ljava/lang/Object;" } : Jvm.MethodName)) ∈ XT := XT2 132 rfl rfl
theorem tw441 : (Jvm.Cond.instanceMethod ({ cls := "java/lang/Object", name := "clone", desc := "()Ljava/lang/Object;" } : Jvm.MethodName)) ∈ XT := XT2 133 rfl rfl
theorem tw442 : (Jvm.Cond.selects "[I" ({ cls := "[I", name := "clone", desc := "()Ljava/lang/Object;" } : Jvm.MethodName) ({ cls := "java/lang/Object", name := "clone", desc := "()Ljava/lang/Object;" } : Jvm.MethodName)) ∈ XT := XT2 134 rfl rfl
theorem tw444 : (Jvm.Cond.classLink "java/util/Arrays" (317 : Nat) "[I") ∈ XT := XT2 136 rfl rfl
theorem tw445 : (Jvm.Cond.methodLink "java/util/Arrays" (304 : Nat) ({ cls := "java/lang/Math", name := "min", desc := "(II)I" } : Jvm.MethodName)) ∈ XT := XT2 137 rfl rfl
theorem tw446 : (Jvm.Cond.static ({ cls := "java/lang/Math", name := "min", desc := "(II)I" } : Jvm.MethodName)) ∈ XT := XT2 138 rfl rfl
theorem tw447 : (Jvm.Cond.code ({ cls := "java/lang/Math", name := "min", desc := "(II)I" } : Jvm.MethodName) prog_14_method_69_code (2 : Nat) (Option.some Jvm.ClassFile.FieldType.int)) ∈ XT := XT2 139 rfl rfl
theorem tw448 : (Jvm.Cond.methodLink "java/util/Arrays" (150 : Nat) ({ cls := "java/lang/System", name := "arraycopy", desc := "(Ljava/lang/Object;ILjava/lang/Object;II)V" } : Jvm.MethodName)) ∈ XT := XT2 140 rfl rfl
theorem tw449 : (Jvm.Cond.static ({ cls := "java/lang/System", name := "arraycopy", desc := "(Ljava/lang/Object;ILjava/lang/Object;II)V" } : Jvm.MethodName)) ∈ XT := XT2 141 rfl rfl
theorem tw450 : (Jvm.Cond.native ({ cls := "java/lang/System", name := "arraycopy", desc := "(Ljava/lang/Object;ILjava/lang/Object;II)V" } : Jvm.MethodName)) ∈ XT := XT2 142 rfl rfl
theorem tw451 : (Jvm.Cond.methodLink "OpensAtNine$Reader" (72 : Nat) ({ cls := "OpensAtNine$Text", name := "<init>", desc := "([I[I)V" } : Jvm.MethodName)) ∈ XT := XT2 143 rfl rfl
theorem tw452 : (Jvm.Cond.instanceMethod ({ cls := "OpensAtNine$Text", name := "<init>", desc := "([I[I)V" } : Jvm.MethodName)) ∈ XT := XT2 144 rfl rfl
theorem tw453 : (Jvm.Cond.code ({ cls := "OpensAtNine$Text", name := "<init>", desc := "([I[I)V" } : Jvm.MethodName) prog_7_method_1_code (3 : Nat) (Option.none : Option Jvm.ClassFile.FieldType)) ∈ XT := XT2 145 rfl rfl
theorem tw454 : (Jvm.Cond.methodLink "OpensAtNine$Text" (1 : Nat) ({ cls := "java/lang/Object", name := "<init>", desc := "()V" } : Jvm.MethodName)) ∈ XT := XT2 146 rfl rfl
theorem tw500 : (Jvm.Cond.methodLink "OpensAtNineLaw" (13 : Nat) ({ cls := "OpensAtNine", name := "set", desc := "(II)I" } : Jvm.MethodName)) ∈ XT := XT2 192 rfl rfl
theorem tw501 : (Jvm.Cond.instanceMethod ({ cls := "OpensAtNine", name := "set", desc := "(II)I" } : Jvm.MethodName)) ∈ XT := XT2 193 rfl rfl
theorem tw502 : (Jvm.Cond.selects "OpensAtNine" ({ cls := "OpensAtNine", name := "set", desc := "(II)I" } : Jvm.MethodName) ({ cls := "OpensAtNine", name := "set", desc := "(II)I" } : Jvm.MethodName)) ∈ XT := XT2 194 rfl rfl
theorem tw503 : (Jvm.Cond.code ({ cls := "OpensAtNine", name := "set", desc := "(II)I" } : Jvm.MethodName) prog_1_method_2_code (4 : Nat) (Option.some Jvm.ClassFile.FieldType.int)) ∈ XT := XT2 195 rfl rfl
theorem tw504 : (Jvm.Cond.methodLink "OpensAtNine" (83 : Nat) ({ cls := "OpensAtNine", name := "count", desc := "(I)I" } : Jvm.MethodName)) ∈ XT := XT2 196 rfl rfl
theorem tw505 : (Jvm.Cond.instanceMethod ({ cls := "OpensAtNine", name := "count", desc := "(I)I" } : Jvm.MethodName)) ∈ XT := XT2 197 rfl rfl
theorem tw506 : (Jvm.Cond.selects "OpensAtNine" ({ cls := "OpensAtNine", name := "count", desc := "(I)I" } : Jvm.MethodName) ({ cls := "OpensAtNine", name := "count", desc := "(I)I" } : Jvm.MethodName)) ∈ XT := XT2 198 rfl rfl
theorem tw507 : (Jvm.Cond.code ({ cls := "OpensAtNine", name := "count", desc := "(I)I" } : Jvm.MethodName) prog_1_method_5_code (2 : Nat) (Option.some Jvm.ClassFile.FieldType.int)) ∈ XT := XT2 199 rfl rfl
theorem tw508 : (Jvm.Cond.methodLink "OpensAtNineLaw" (18 : Nat) ({ cls := "OpensAtNine", name := "come", desc := "()I" } : Jvm.MethodName)) ∈ XT := XT2 200 rfl rfl
theorem tw509 : (Jvm.Cond.instanceMethod ({ cls := "OpensAtNine", name := "come", desc := "()I" } : Jvm.MethodName)) ∈ XT := XT2 201 rfl rfl
theorem tw510 : (Jvm.Cond.selects "OpensAtNine" ({ cls := "OpensAtNine", name := "come", desc := "()I" } : Jvm.MethodName) ({ cls := "OpensAtNine", name := "come", desc := "()I" } : Jvm.MethodName)) ∈ XT := XT2 202 rfl rfl
theorem tw511 : (Jvm.Cond.code ({ cls := "OpensAtNine", name := "come", desc := "()I" } : Jvm.MethodName) prog_1_method_3_code (1 : Nat) (Option.some Jvm.ClassFile.FieldType.int)) ∈ XT := XT2 203 rfl rfl
theorem tw512 : (Jvm.Cond.methodLink "OpensAtNineLaw" (23 : Nat) ({ cls := "OpensAtNine", name := "stand", desc := "(II)I" } : Jvm.MethodName)) ∈ XT := XT2 204 rfl rfl
theorem tw513 : (Jvm.Cond.instanceMethod ({ cls := "OpensAtNine", name := "stand", desc := "(II)I" } : Jvm.MethodName)) ∈ XT := XT2 205 rfl rfl
theorem tw514 : (Jvm.Cond.selects "OpensAtNine" ({ cls := "OpensAtNine", name := "stand", desc := "(II)I" } : Jvm.MethodName) ({ cls := "OpensAtNine", name := "stand", desc := "(II)I" } : Jvm.MethodName)) ∈ XT := XT2 206 rfl rfl
theorem tw515 : (Jvm.Cond.code ({ cls := "OpensAtNine", name := "stand", desc := "(II)I" } : Jvm.MethodName) prog_1_method_4_code (4 : Nat) (Option.some Jvm.ClassFile.FieldType.int)) ∈ XT := XT2 207 rfl rfl
theorem tw516 : (Jvm.Cond.methodLink "OpensAtNine" (99 : Nat) ({ cls := "OpensAtNine$Gate", name := "isOne", desc := "(I)Z" } : Jvm.MethodName)) ∈ XT := XT2 208 rfl rfl
theorem tw517 : (Jvm.Cond.instanceMethod ({ cls := "OpensAtNine$Gate", name := "isOne", desc := "(I)Z" } : Jvm.MethodName)) ∈ XT := XT2 209 rfl rfl
theorem tw518 : (Jvm.Cond.selects "OpensAtNine$Gate" ({ cls := "OpensAtNine$Gate", name := "isOne", desc := "(I)Z" } : Jvm.MethodName) ({ cls := "OpensAtNine$Gate", name := "isOne", desc := "(I)Z" } : Jvm.MethodName)) ∈ XT := XT2 210 rfl rfl
theorem tw519 : (Jvm.Cond.code ({ cls := "OpensAtNine$Gate", name := "isOne", desc := "(I)Z" } : Jvm.MethodName) prog_3_method_4_code (2 : Nat) (Option.some Jvm.ClassFile.FieldType.boolean)) ∈ XT := XT2 211 rfl rfl
theorem tw520 : (Jvm.Cond.methodLink "OpensAtNine" (103 : Nat) ({ cls := "OpensAtNine$Gate", name := "isInside", desc := "(I)Z" } : Jvm.MethodName)) ∈ XT := XT2 212 rfl rfl
theorem tw521 : (Jvm.Cond.instanceMethod ({ cls := "OpensAtNine$Gate", name := "isInside", desc := "(I)Z" } : Jvm.MethodName)) ∈ XT := XT2 213 rfl rfl
theorem tw522 : (Jvm.Cond.selects "OpensAtNine$Gate" ({ cls := "OpensAtNine$Gate", name := "isInside", desc := "(I)Z" } : Jvm.MethodName) ({ cls := "OpensAtNine$Gate", name := "isInside", desc := "(I)Z" } : Jvm.MethodName)) ∈ XT := XT2 214 rfl rfl
theorem tw523 : (Jvm.Cond.code ({ cls := "OpensAtNine$Gate", name := "isInside", desc := "(I)Z" } : Jvm.MethodName) prog_3_method_5_code (2 : Nat) (Option.some Jvm.ClassFile.FieldType.boolean)) ∈ XT := XT2 215 rfl rfl
theorem tw524 : (Jvm.Cond.methodLink "OpensAtNineLaw" (27 : Nat) ({ cls := "OpensAtNine", name := "count", desc := "(I)I" } : Jvm.MethodName)) ∈ XT := XT2 216 rfl rfl
theorem tw525 : (Jvm.Cond.methodLink "OpensAtNineLaw" (32 : Nat) ({ cls := "OpensAtNine", name := "feed", desc := "(IIIIII)I" } : Jvm.MethodName)) ∈ XT := XT2 217 rfl rfl
theorem tw526 : (Jvm.Cond.instanceMethod ({ cls := "OpensAtNine", name := "feed", desc := "(IIIIII)I" } : Jvm.MethodName)) ∈ XT := XT2 218 rfl rfl
theorem tw527 : (Jvm.Cond.selects "OpensAtNine" ({ cls := "OpensAtNine", name := "feed", desc := "(IIIIII)I" } : Jvm.MethodName) ({ cls := "OpensAtNine", name := "feed", desc := "(IIIIII)I" } : Jvm.MethodName)) ∈ XT := XT2 219 rfl rfl
theorem tw528 : (Jvm.Cond.code ({ cls := "OpensAtNine", name := "feed", desc := "(IIIIII)I" } : Jvm.MethodName) prog_1_method_6_code (7 : Nat) (Option.some Jvm.ClassFile.FieldType.int)) ∈ XT := XT2 220 rfl rfl
theorem tw529 : (Jvm.Cond.methodLink "OpensAtNine" (118 : Nat) ({ cls := "OpensAtNine", name := "isByte", desc := "(I)Z" } : Jvm.MethodName)) ∈ XT := XT2 221 rfl rfl
theorem tw530 : (Jvm.Cond.static ({ cls := "OpensAtNine", name := "isByte", desc := "(I)Z" } : Jvm.MethodName)) ∈ XT := XT2 222 rfl rfl
theorem tw531 : (Jvm.Cond.code ({ cls := "OpensAtNine", name := "isByte", desc := "(I)Z" } : Jvm.MethodName) prog_1_method_7_code (1 : Nat) (Option.some Jvm.ClassFile.FieldType.boolean)) ∈ XT := XT2 223 rfl rfl
theorem tw532 : (Jvm.Cond.methodLink "OpensAtNine" (121 : Nat) ({ cls := "OpensAtNine$Reader", name := "add", desc := "(I)V" } : Jvm.MethodName)) ∈ XT := XT2 224 rfl rfl
theorem tw533 : (Jvm.Cond.methodLink "OpensAtNineLaw" (37 : Nat) ({ cls := "OpensAtNine", name := "text", desc := "()I" } : Jvm.MethodName)) ∈ XT := XT2 225 rfl rfl
theorem tw534 : (Jvm.Cond.instanceMethod ({ cls := "OpensAtNine", name := "text", desc := "()I" } : Jvm.MethodName)) ∈ XT := XT2 226 rfl rfl
theorem tw535 : (Jvm.Cond.selects "OpensAtNine" ({ cls := "OpensAtNine", name := "text", desc := "()I" } : Jvm.MethodName) ({ cls := "OpensAtNine", name := "text", desc := "()I" } : Jvm.MethodName)) ∈ XT := XT2 227 rfl rfl
theorem tw536 : (Jvm.Cond.code ({ cls := "OpensAtNine", name := "text", desc := "()I" } : Jvm.MethodName) prog_1_method_8_code (2 : Nat) (Option.some Jvm.ClassFile.FieldType.int)) ∈ XT := XT2 228 rfl rfl
theorem tw537 : (Jvm.Cond.methodLink "OpensAtNineLaw" (41 : Nat) ({ cls := "OpensAtNine", name := "force", desc := "(I)I" } : Jvm.MethodName)) ∈ XT := XT2 229 rfl rfl
theorem tw538 : (Jvm.Cond.instanceMethod ({ cls := "OpensAtNine", name := "force", desc := "(I)I" } : Jvm.MethodName)) ∈ XT := XT2 230 rfl rfl
theorem tw539 : (Jvm.Cond.selects "OpensAtNine" ({ cls := "OpensAtNine", name := "force", desc := "(I)I" } : Jvm.MethodName) ({ cls := "OpensAtNine", name := "force", desc := "(I)I" } : Jvm.MethodName)) ∈ XT := XT2 231 rfl rfl
theorem tw540 : (Jvm.Cond.code ({ cls := "OpensAtNine", name := "force", desc := "(I)I" } : Jvm.MethodName) prog_1_method_9_code (3 : Nat) (Option.some Jvm.ClassFile.FieldType.int)) ∈ XT := XT2 232 rfl rfl
theorem tw541 : (Jvm.Cond.methodLink "OpensAtNineLaw" (45 : Nat) ({ cls := "OpensAtNine", name := "asks", desc := "(IIIII)I" } : Jvm.MethodName)) ∈ XT := XT2 233 rfl rfl
theorem tw542 : (Jvm.Cond.instanceMethod ({ cls := "OpensAtNine", name := "asks", desc := "(IIIII)I" } : Jvm.MethodName)) ∈ XT := XT2 234 rfl rfl
theorem tw543 : (Jvm.Cond.selects "OpensAtNine" ({ cls := "OpensAtNine", name := "asks", desc := "(IIIII)I" } : Jvm.MethodName) ({ cls := "OpensAtNine", name := "asks", desc := "(IIIII)I" } : Jvm.MethodName)) ∈ XT := XT2 235 rfl rfl
theorem tw544 : (Jvm.Cond.code ({ cls := "OpensAtNine", name := "asks", desc := "(IIIII)I" } : Jvm.MethodName) prog_1_method_10_code (6 : Nat) (Option.some Jvm.ClassFile.FieldType.int)) ∈ XT := XT2 236 rfl rfl
theorem tw545 : (Jvm.Cond.methodLink "OpensAtNine" (128 : Nat) ({ cls := "OpensAtNine$Gate", name := "lawSays", desc := "(IIIIII)I" } : Jvm.MethodName)) ∈ XT := XT2 237 rfl rfl
theorem tw546 : (Jvm.Cond.instanceMethod ({ cls := "OpensAtNine$Gate", name := "lawSays", desc := "(IIIIII)I" } : Jvm.MethodName)) ∈ XT := XT2 238 rfl rfl
theorem tw547 : (Jvm.Cond.selects "OpensAtNine$Gate" ({ cls := "OpensAtNine$Gate", name := "lawSays", desc := "(IIIIII)I" } : Jvm.MethodName) ({ cls := "OpensAtNine$Gate", name := "lawSays", desc := "(IIIIII)I" } : Jvm.MethodName)) ∈ XT := XT2 239 rfl rfl
theorem tw548 : (Jvm.Cond.code ({ cls := "OpensAtNine$Gate", name := "lawSays", desc := "(IIIIII)I" } : Jvm.MethodName) prog_3_method_19_code (9 : Nat) (Option.some Jvm.ClassFile.FieldType.int)) ∈ XT := XT3 0 rfl rfl
theorem tw549 : (Jvm.Cond.methodLink "OpensAtNine$Gate" (102 : Nat) ({ cls := "OpensAtNine$Gate", name := "restOf", desc := "(I)I" } : Jvm.MethodName)) ∈ XT := XT3 1 rfl rfl
theorem tw550 : (Jvm.Cond.instanceMethod ({ cls := "OpensAtNine$Gate", name := "restOf", desc := "(I)I" } : Jvm.MethodName)) ∈ XT := XT3 2 rfl rfl
theorem tw551 : (Jvm.Cond.selects "OpensAtNine$Gate" ({ cls := "OpensAtNine$Gate", name := "restOf", desc := "(I)I" } : Jvm.MethodName) ({ cls := "OpensAtNine$Gate", name := "restOf", desc := "(I)I" } : Jvm.MethodName)) ∈ XT := XT3 3 rfl rfl
theorem tw552 : (Jvm.Cond.code ({ cls := "OpensAtNine$Gate", name := "restOf", desc := "(I)I" } : Jvm.MethodName) prog_3_method_18_code (2 : Nat) (Option.some Jvm.ClassFile.FieldType.int)) ∈ XT := XT3 4 rfl rfl
theorem tw553 : (Jvm.Cond.methodLink "OpensAtNine$Gate" (105 : Nat) ({ cls := "OpensAtNine$Text", name := "says", desc := "(I[I)I" } : Jvm.MethodName)) ∈ XT := XT3 5 rfl rfl
theorem tw554 : (Jvm.Cond.instanceMethod ({ cls := "OpensAtNine$Text", name := "says", desc := "(I[I)I" } : Jvm.MethodName)) ∈ XT := XT3 6 rfl rfl
theorem tw555 : (Jvm.Cond.selects "OpensAtNine$Text" ({ cls := "OpensAtNine$Text", name := "says", desc := "(I[I)I" } : Jvm.MethodName) ({ cls := "OpensAtNine$Text", name := "says", desc := "(I[I)I" } : Jvm.MethodName)) ∈ XT := XT3 7 rfl rfl
theorem tw556 : (Jvm.Cond.code ({ cls := "OpensAtNine$Text", name := "says", desc := "(I[I)I" } : Jvm.MethodName) prog_7_method_2_code (7 : Nat) (Option.some Jvm.ClassFile.FieldType.int)) ∈ XT := XT3 8 rfl rfl
theorem tw557 : (Jvm.Cond.methodLink "OpensAtNine$Text" (19 : Nat) ({ cls := "java/lang/Math", name := "min", desc := "(II)I" } : Jvm.MethodName)) ∈ XT := XT3 9 rfl rfl
theorem tw558 : (Jvm.Cond.methodLink "OpensAtNine$Text" (25 : Nat) ({ cls := "java/lang/Math", name := "max", desc := "(II)I" } : Jvm.MethodName)) ∈ XT := XT3 10 rfl rfl
theorem tw559 : (Jvm.Cond.static ({ cls := "java/lang/Math", name := "max", desc := "(II)I" } : Jvm.MethodName)) ∈ XT := XT3 11 rfl rfl
theorem tw560 : (Jvm.Cond.code ({ cls := "java/lang/Math", name := "max", desc := "(II)I" } : Jvm.MethodName) prog_14_method_65_code (2 : Nat) (Option.some Jvm.ClassFile.FieldType.int)) ∈ XT := XT3 12 rfl rfl
theorem tw561 : (Jvm.Cond.methodLink "OpensAtNine$Text" (28 : Nat) ({ cls := "OpensAtNine$Text", name := "named", desc := "([II)I" } : Jvm.MethodName)) ∈ XT := XT3 13 rfl rfl
theorem tw562 : (Jvm.Cond.static ({ cls := "OpensAtNine$Text", name := "named", desc := "([II)I" } : Jvm.MethodName)) ∈ XT := XT3 14 rfl rfl
theorem tw563 : (Jvm.Cond.code ({ cls := "OpensAtNine$Text", name := "named", desc := "([II)I" } : Jvm.MethodName) prog_7_method_3_code (2 : Nat) (Option.some Jvm.ClassFile.FieldType.int)) ∈ XT := XT3 15 rfl rfl
theorem tw564 : (Jvm.Cond.methodLink "OpensAtNine$Text" (32 : Nat) ({ cls := "OpensAtNine$Text", name := "joined", desc := "(III)I" } : Jvm.MethodName)) ∈ XT := XT3 16 rfl rfl
theorem tw565 : (Jvm.Cond.static ({ cls := "OpensAtNine$Text", name := "joined", desc := "(III)I" } : Jvm.MethodName)) ∈ XT := XT3 17 rfl rfl
theorem tw566 : (Jvm.Cond.code ({ cls := "OpensAtNine$Text", name := "joined", desc := "(III)I" } : Jvm.MethodName) prog_7_method_4_code (3 : Nat) (Option.some Jvm.ClassFile.FieldType.int)) ∈ XT := XT3 18 rfl rfl
theorem tw567 : (Jvm.Cond.methodLink "OpensAtNine$Gate" (74 : Nat) ({ cls := "java/lang/Math", name := "min", desc := "(II)I" } : Jvm.MethodName)) ∈ XT := XT3 19 rfl rfl
theorem tw568 : (Jvm.Cond.methodLink "OpensAtNine$Gate" (111 : Nat) ({ cls := "java/lang/Math", name := "max", desc := "(II)I" } : Jvm.MethodName)) ∈ XT := XT3 20 rfl rfl
theorem tw569 : (Jvm.Cond.methodLink "OpensAtNineLaw" (50 : Nat) ({ cls := "OpensAtNine", name := "coin", desc := "(IIII)I" } : Jvm.MethodName)) ∈ XT := XT3 21 rfl rfl
theorem tw570 : (Jvm.Cond.instanceMethod ({ cls := "OpensAtNine", name := "coin", desc := "(IIII)I" } : Jvm.MethodName)) ∈ XT := XT3 22 rfl rfl
theorem tw571 : (Jvm.Cond.selects "OpensAtNine" ({ cls := "OpensAtNine", name := "coin", desc := "(IIII)I" } : Jvm.MethodName) ({ cls := "OpensAtNine", name := "coin", desc := "(IIII)I" } : Jvm.MethodName)) ∈ XT := XT3 23 rfl rfl
theorem tw572 : (Jvm.Cond.code ({ cls := "OpensAtNine", name := "coin", desc := "(IIII)I" } : Jvm.MethodName) prog_1_method_11_code (6 : Nat) (Option.some Jvm.ClassFile.FieldType.int)) ∈ XT := XT3 24 rfl rfl
theorem tw573 : (Jvm.Cond.instantiable "OpensAtNine$Coin" (3 : Nat)) ∈ XT := XT3 25 rfl rfl
theorem tw574 : (Jvm.Cond.methodLink "OpensAtNine" (132 : Nat) ({ cls := "OpensAtNine$Coin", name := "<init>", desc := "(III)V" } : Jvm.MethodName)) ∈ XT := XT3 26 rfl rfl
theorem tw575 : (Jvm.Cond.instanceMethod ({ cls := "OpensAtNine$Coin", name := "<init>", desc := "(III)V" } : Jvm.MethodName)) ∈ XT := XT3 27 rfl rfl
theorem tw576 : (Jvm.Cond.code ({ cls := "OpensAtNine$Coin", name := "<init>", desc := "(III)V" } : Jvm.MethodName) prog_2_method_1_code (4 : Nat) (Option.none : Option Jvm.ClassFile.FieldType)) ∈ XT := XT3 28 rfl rfl
theorem tw577 : (Jvm.Cond.methodLink "OpensAtNine$Coin" (3 : Nat) ({ cls := "java/lang/Object", name := "<init>", desc := "()V" } : Jvm.MethodName)) ∈ XT := XT3 29 rfl rfl
theorem tw591 : (Jvm.Cond.methodLink "OpensAtNine" (135 : Nat) ({ cls := "OpensAtNine$Gate", name := "give", desc := "(II)V" } : Jvm.MethodName)) ∈ XT := XT3 43 rfl rfl
theorem tw592 : (Jvm.Cond.instanceMethod ({ cls := "OpensAtNine$Gate", name := "give", desc := "(II)V" } : Jvm.MethodName)) ∈ XT := XT3 44 rfl rfl
theorem tw593 : (Jvm.Cond.selects "OpensAtNine$Gate" ({ cls := "OpensAtNine$Gate", name := "give", desc := "(II)V" } : Jvm.MethodName) ({ cls := "OpensAtNine$Gate", name := "give", desc := "(II)V" } : Jvm.MethodName)) ∈ XT := XT3 45 rfl rfl
theorem tw594 : (Jvm.Cond.code ({ cls := "OpensAtNine$Gate", name := "give", desc := "(II)V" } : Jvm.MethodName) prog_3_method_9_code (4 : Nat) (Option.none : Option Jvm.ClassFile.FieldType)) ∈ XT := XT3 46 rfl rfl
theorem tw595 : (Jvm.Cond.methodLink "OpensAtNineLaw" (55 : Nat) ({ cls := "OpensAtNine", name := "sell", desc := "(II)I" } : Jvm.MethodName)) ∈ XT := XT3 47 rfl rfl
theorem tw596 : (Jvm.Cond.instanceMethod ({ cls := "OpensAtNine", name := "sell", desc := "(II)I" } : Jvm.MethodName)) ∈ XT := XT3 48 rfl rfl
theorem tw597 : (Jvm.Cond.selects "OpensAtNine" ({ cls := "OpensAtNine", name := "sell", desc := "(II)I" } : Jvm.MethodName) ({ cls := "OpensAtNine", name := "sell", desc := "(II)I" } : Jvm.MethodName)) ∈ XT := XT3 49 rfl rfl
theorem tw598 : (Jvm.Cond.code ({ cls := "OpensAtNine", name := "sell", desc := "(II)I" } : Jvm.MethodName) prog_1_method_12_code (4 : Nat) (Option.some Jvm.ClassFile.FieldType.int)) ∈ XT := XT3 50 rfl rfl
theorem tw599 : (Jvm.Cond.methodLink "OpensAtNine" (139 : Nat) ({ cls := "OpensAtNine$Gate", name := "coinAt", desc := "(I)LOpensAtNine$Coin;" } : Jvm.MethodName)) ∈ XT := XT3 51 rfl rfl
theorem tw600 : (Jvm.Cond.instanceMethod ({ cls := "OpensAtNine$Gate", name := "coinAt", desc := "(I)LOpensAtNine$Coin;" } : Jvm.MethodName)) ∈ XT := XT3 52 rfl rfl
theorem tw601 : (Jvm.Cond.selects "OpensAtNine$Gate" ({ cls := "OpensAtNine$Gate", name := "coinAt", desc := "(I)LOpensAtNine$Coin;" } : Jvm.MethodName) ({ cls := "OpensAtNine$Gate", name := "coinAt", desc := "(I)LOpensAtNine$Coin;" } : Jvm.MethodName)) ∈ XT := XT3 53 rfl rfl
theorem tw602 : (Jvm.Cond.code ({ cls := "OpensAtNine$Gate", name := "coinAt", desc := "(I)LOpensAtNine$Coin;" } : Jvm.MethodName) prog_3_method_6_code (2 : Nat) (Option.some (Jvm.ClassFile.FieldType.object "OpensAtNine$Coin"))) ∈ XT := XT3 54 rfl rfl
theorem tw603 : (Jvm.Cond.methodLink "OpensAtNine" (143 : Nat) ({ cls := "OpensAtNine$Gate", name := "isSpent", desc := "(I)Z" } : Jvm.MethodName)) ∈ XT := XT3 55 rfl rfl
theorem tw604 : (Jvm.Cond.instanceMethod ({ cls := "OpensAtNine$Gate", name := "isSpent", desc := "(I)Z" } : Jvm.MethodName)) ∈ XT := XT3 56 rfl rfl
theorem tw605 : (Jvm.Cond.selects "OpensAtNine$Gate" ({ cls := "OpensAtNine$Gate", name := "isSpent", desc := "(I)Z" } : Jvm.MethodName) ({ cls := "OpensAtNine$Gate", name := "isSpent", desc := "(I)Z" } : Jvm.MethodName)) ∈ XT := XT3 57 rfl rfl
theorem tw606 : (Jvm.Cond.code ({ cls := "OpensAtNine$Gate", name := "isSpent", desc := "(I)Z" } : Jvm.MethodName) prog_3_method_7_code (2 : Nat) (Option.some Jvm.ClassFile.FieldType.boolean)) ∈ XT := XT3 58 rfl rfl
theorem tw607 : (Jvm.Cond.methodLink "OpensAtNine" (146 : Nat) ({ cls := "OpensAtNine$Gate", name := "ownerOf", desc := "(I)I" } : Jvm.MethodName)) ∈ XT := XT3 59 rfl rfl
theorem tw608 : (Jvm.Cond.instanceMethod ({ cls := "OpensAtNine$Gate", name := "ownerOf", desc := "(I)I" } : Jvm.MethodName)) ∈ XT := XT3 60 rfl rfl
theorem tw609 : (Jvm.Cond.selects "OpensAtNine$Gate" ({ cls := "OpensAtNine$Gate", name := "ownerOf", desc := "(I)I" } : Jvm.MethodName) ({ cls := "OpensAtNine$Gate", name := "ownerOf", desc := "(I)I" } : Jvm.MethodName)) ∈ XT := XT3 61 rfl rfl
theorem tw610 : (Jvm.Cond.code ({ cls := "OpensAtNine$Gate", name := "ownerOf", desc := "(I)I" } : Jvm.MethodName) prog_3_method_8_code (3 : Nat) (Option.some Jvm.ClassFile.FieldType.int)) ∈ XT := XT3 62 rfl rfl
theorem tw611 : (Jvm.Cond.methodLink "OpensAtNineLaw" (59 : Nat) ({ cls := "OpensAtNine", name := "told", desc := "(II)I" } : Jvm.MethodName)) ∈ XT := XT3 63 rfl rfl
theorem tw612 : (Jvm.Cond.instanceMethod ({ cls := "OpensAtNine", name := "told", desc := "(II)I" } : Jvm.MethodName)) ∈ XT := XT3 64 rfl rfl
theorem tw613 : (Jvm.Cond.selects "OpensAtNine" ({ cls := "OpensAtNine", name := "told", desc := "(II)I" } : Jvm.MethodName) ({ cls := "OpensAtNine", name := "told", desc := "(II)I" } : Jvm.MethodName)) ∈ XT := XT3 65 rfl rfl
theorem tw614 : (Jvm.Cond.code ({ cls := "OpensAtNine", name := "told", desc := "(II)I" } : Jvm.MethodName) prog_1_method_13_code (4 : Nat) (Option.some Jvm.ClassFile.FieldType.int)) ∈ XT := XT3 66 rfl rfl
theorem tw615 : (Jvm.Cond.methodLink "OpensAtNine" (158 : Nat) ({ cls := "OpensAtNine$Coin", name := "countsBy", desc := "(I)I" } : Jvm.MethodName)) ∈ XT := XT3 67 rfl rfl
theorem tw616 : (Jvm.Cond.instanceMethod ({ cls := "OpensAtNine$Coin", name := "countsBy", desc := "(I)I" } : Jvm.MethodName)) ∈ XT := XT3 68 rfl rfl
theorem tw617 : (Jvm.Cond.selects "OpensAtNine$Coin" ({ cls := "OpensAtNine$Coin", name := "countsBy", desc := "(I)I" } : Jvm.MethodName) ({ cls := "OpensAtNine$Coin", name := "countsBy", desc := "(I)I" } : Jvm.MethodName)) ∈ XT := XT3 69 rfl rfl
theorem tw618 : (Jvm.Cond.code ({ cls := "OpensAtNine$Coin", name := "countsBy", desc := "(I)I" } : Jvm.MethodName) prog_2_method_2_code (2 : Nat) (Option.some Jvm.ClassFile.FieldType.int)) ∈ XT := XT3 70 rfl rfl
theorem tw619 : (Jvm.Cond.methodLink "OpensAtNine$Coin" (21 : Nat) ({ cls := "OpensAtNine$Coin", name := "worn", desc := "()I" } : Jvm.MethodName)) ∈ XT := XT3 71 rfl rfl
theorem tw621 : (Jvm.Cond.instanceMethod ({ cls := "OpensAtNine$Coin", name := "worn", desc := "()I" } : Jvm.MethodName)) ∈ XT := XT3 73 rfl rfl
theorem tw622 : (Jvm.Cond.code ({ cls := "OpensAtNine$Coin", name := "worn", desc := "()I" } : Jvm.MethodName) prog_2_method_3_code (1 : Nat) (Option.some Jvm.ClassFile.FieldType.int)) ∈ XT := XT3 74 rfl rfl
theorem tw623 : (Jvm.Cond.methodLink "OpensAtNine$Coin" (25 : Nat) ({ cls := "java/lang/Math", name := "max", desc := "(II)I" } : Jvm.MethodName)) ∈ XT := XT3 75 rfl rfl
theorem tw624 : (Jvm.Cond.methodLink "OpensAtNine" (161 : Nat) ({ cls := "OpensAtNine$Coin", name := "costs", desc := "()I" } : Jvm.MethodName)) ∈ XT := XT3 76 rfl rfl
theorem tw625 : (Jvm.Cond.instanceMethod ({ cls := "OpensAtNine$Coin", name := "costs", desc := "()I" } : Jvm.MethodName)) ∈ XT := XT3 77 rfl rfl
theorem tw626 : (Jvm.Cond.selects "OpensAtNine$Coin" ({ cls := "OpensAtNine$Coin", name := "costs", desc := "()I" } : Jvm.MethodName) ({ cls := "OpensAtNine$Coin", name := "costs", desc := "()I" } : Jvm.MethodName)) ∈ XT := XT3 78 rfl rfl
theorem tw627 : (Jvm.Cond.code ({ cls := "OpensAtNine$Coin", name := "costs", desc := "()I" } : Jvm.MethodName) prog_2_method_4_code (1 : Nat) (Option.some Jvm.ClassFile.FieldType.int)) ∈ XT := XT3 79 rfl rfl
theorem tw628 : (Jvm.Cond.methodLink "OpensAtNineLaw" (63 : Nat) ({ cls := "OpensAtNine", name := "put", desc := "(I)I" } : Jvm.MethodName)) ∈ XT := XT3 80 rfl rfl
theorem tw629 : (Jvm.Cond.instanceMethod ({ cls := "OpensAtNine", name := "put", desc := "(I)I" } : Jvm.MethodName)) ∈ XT := XT3 81 rfl rfl
theorem tw630 : (Jvm.Cond.selects "OpensAtNine" ({ cls := "OpensAtNine", name := "put", desc := "(I)I" } : Jvm.MethodName) ({ cls := "OpensAtNine", name := "put", desc := "(I)I" } : Jvm.MethodName)) ∈ XT := XT3 82 rfl rfl
theorem tw631 : (Jvm.Cond.code ({ cls := "OpensAtNine", name := "put", desc := "(I)I" } : Jvm.MethodName) prog_1_method_14_code (2 : Nat) (Option.some Jvm.ClassFile.FieldType.int)) ∈ XT := XT3 83 rfl rfl
theorem tw632 : (Jvm.Cond.methodLink "OpensAtNine" (165 : Nat) ({ cls := "OpensAtNine$Gate", name := "mayPut", desc := "(I)Z" } : Jvm.MethodName)) ∈ XT := XT3 84 rfl rfl
theorem tw633 : (Jvm.Cond.instanceMethod ({ cls := "OpensAtNine$Gate", name := "mayPut", desc := "(I)Z" } : Jvm.MethodName)) ∈ XT := XT3 85 rfl rfl
theorem tw634 : (Jvm.Cond.selects "OpensAtNine$Gate" ({ cls := "OpensAtNine$Gate", name := "mayPut", desc := "(I)Z" } : Jvm.MethodName) ({ cls := "OpensAtNine$Gate", name := "mayPut", desc := "(I)Z" } : Jvm.MethodName)) ∈ XT := XT3 86 rfl rfl
theorem tw635 : (Jvm.Cond.code ({ cls := "OpensAtNine$Gate", name := "mayPut", desc := "(I)Z" } : Jvm.MethodName) prog_3_method_12_code (2 : Nat) (Option.some Jvm.ClassFile.FieldType.boolean)) ∈ XT := XT3 87 rfl rfl
theorem tw636 : (Jvm.Cond.methodLink "OpensAtNine$Gate" (59 : Nat) ({ cls := "OpensAtNine$Gate", name := "coinAt", desc := "(I)LOpensAtNine$Coin;" } : Jvm.MethodName)) ∈ XT := XT3 88 rfl rfl
theorem tw637 : (Jvm.Cond.methodLink "OpensAtNine$Gate" (63 : Nat) ({ cls := "OpensAtNine$Gate", name := "isSpent", desc := "(I)Z" } : Jvm.MethodName)) ∈ XT := XT3 89 rfl rfl
theorem tw638 : (Jvm.Cond.methodLink "OpensAtNine$Gate" (66 : Nat) ({ cls := "OpensAtNine$Gate", name := "ownerOf", desc := "(I)I" } : Jvm.MethodName)) ∈ XT := XT3 90 rfl rfl
theorem tw639 : (Jvm.Cond.methodLink "OpensAtNine$Gate" (51 : Nat) ({ cls := "OpensAtNine$Gate", name := "isInside", desc := "(I)Z" } : Jvm.MethodName)) ∈ XT := XT3 91 rfl rfl
theorem tw640 : (Jvm.Cond.methodLink "OpensAtNine" (168 : Nat) ({ cls := "OpensAtNine$Gate", name := "putIn", desc := "(I)Z" } : Jvm.MethodName)) ∈ XT := XT3 92 rfl rfl
theorem tw641 : (Jvm.Cond.instanceMethod ({ cls := "OpensAtNine$Gate", name := "putIn", desc := "(I)Z" } : Jvm.MethodName)) ∈ XT := XT3 93 rfl rfl
theorem tw642 : (Jvm.Cond.selects "OpensAtNine$Gate" ({ cls := "OpensAtNine$Gate", name := "putIn", desc := "(I)Z" } : Jvm.MethodName) ({ cls := "OpensAtNine$Gate", name := "putIn", desc := "(I)Z" } : Jvm.MethodName)) ∈ XT := XT3 94 rfl rfl
theorem tw643 : (Jvm.Cond.code ({ cls := "OpensAtNine$Gate", name := "putIn", desc := "(I)Z" } : Jvm.MethodName) prog_3_method_13_code (6 : Nat) (Option.some Jvm.ClassFile.FieldType.boolean)) ∈ XT := XT3 95 rfl rfl
theorem tw644 : (Jvm.Cond.methodLink "OpensAtNine$Gate" (69 : Nat) ({ cls := "OpensAtNine$Coin", name := "countsBy", desc := "(I)I" } : Jvm.MethodName)) ∈ XT := XT3 96 rfl rfl
theorem tw645 : (Jvm.Cond.methodLink "OpensAtNine$Gate" (55 : Nat) ({ cls := "OpensAtNine$Gate", name := "leftOf", desc := "(I)I" } : Jvm.MethodName)) ∈ XT := XT3 97 rfl rfl
theorem tw646 : (Jvm.Cond.instanceMethod ({ cls := "OpensAtNine$Gate", name := "leftOf", desc := "(I)I" } : Jvm.MethodName)) ∈ XT := XT3 98 rfl rfl
theorem tw647 : (Jvm.Cond.selects "OpensAtNine$Gate" ({ cls := "OpensAtNine$Gate", name := "leftOf", desc := "(I)I" } : Jvm.MethodName) ({ cls := "OpensAtNine$Gate", name := "leftOf", desc := "(I)I" } : Jvm.MethodName)) ∈ XT := XT3 99 rfl rfl
theorem tw648 : (Jvm.Cond.code ({ cls := "OpensAtNine$Gate", name := "leftOf", desc := "(I)I" } : Jvm.MethodName) prog_3_method_10_code (2 : Nat) (Option.some Jvm.ClassFile.FieldType.int)) ∈ XT := XT3 100 rfl rfl
theorem tw649 : (Jvm.Cond.methodLink "OpensAtNine$Gate" (80 : Nat) ({ cls := "java/lang/Integer", name := "bitCount", desc := "(I)I" } : Jvm.MethodName)) ∈ XT := XT3 101 rfl rfl
theorem tw650 : (Jvm.Cond.static ({ cls := "java/lang/Integer", name := "bitCount", desc := "(I)I" } : Jvm.MethodName)) ∈ XT := XT3 102 rfl rfl
theorem tw651 : (Jvm.Cond.code ({ cls := "java/lang/Integer", name := "bitCount", desc := "(I)I" } : Jvm.MethodName) prog_13_method_49_code (1 : Nat) (Option.some Jvm.ClassFile.FieldType.int)) ∈ XT := XT3 103 rfl rfl
theorem tw652 : (Jvm.Cond.constant "java/lang/Integer" (265 : Nat) (1431655765 : Int32)) ∈ XT := XT3 104 rfl rfl
theorem tw653 : (Jvm.Cond.constant "java/lang/Integer" (266 : Nat) (858993459 : Int32)) ∈ XT := XT3 105 rfl rfl
theorem tw654 : (Jvm.Cond.constant "java/lang/Integer" (267 : Nat) (252645135 : Int32)) ∈ XT := XT3 106 rfl rfl
theorem tw655 : (Jvm.Cond.methodLink "OpensAtNine$Gate" (85 : Nat) ({ cls := "OpensAtNine$Gate", name := "lawSays", desc := "(IIIIII)I" } : Jvm.MethodName)) ∈ XT := XT3 107 rfl rfl
theorem tw656 : (Jvm.Cond.methodLink "OpensAtNine$Gate" (89 : Nat) ({ cls := "OpensAtNine$Gate", name := "waitOn", desc := "()V" } : Jvm.MethodName)) ∈ XT := XT3 108 rfl rfl
theorem tw657 : (Jvm.Cond.instanceMethod ({ cls := "OpensAtNine$Gate", name := "waitOn", desc := "()V" } : Jvm.MethodName)) ∈ XT := XT3 109 rfl rfl
theorem tw658 : (Jvm.Cond.selects "OpensAtNine$Gate" ({ cls := "OpensAtNine$Gate", name := "waitOn", desc := "()V" } : Jvm.MethodName) ({ cls := "OpensAtNine$Gate", name := "waitOn", desc := "()V" } : Jvm.MethodName)) ∈ XT := XT3 110 rfl rfl
theorem tw659 : (Jvm.Cond.code ({ cls := "OpensAtNine$Gate", name := "waitOn", desc := "()V" } : Jvm.MethodName) prog_3_method_14_code (1 : Nat) (Option.none : Option Jvm.ClassFile.FieldType)) ∈ XT := XT3 111 rfl rfl
theorem tw660 : (Jvm.Cond.methodLink "OpensAtNineLaw" (67 : Nat) ({ cls := "OpensAtNine", name := "worth", desc := "(I)I" } : Jvm.MethodName)) ∈ XT := XT3 112 rfl rfl
theorem tw661 : (Jvm.Cond.instanceMethod ({ cls := "OpensAtNine", name := "worth", desc := "(I)I" } : Jvm.MethodName)) ∈ XT := XT3 113 rfl rfl
theorem tw662 : (Jvm.Cond.selects "OpensAtNine" ({ cls := "OpensAtNine", name := "worth", desc := "(I)I" } : Jvm.MethodName) ({ cls := "OpensAtNine", name := "worth", desc := "(I)I" } : Jvm.MethodName)) ∈ XT := XT3 114 rfl rfl
theorem tw663 : (Jvm.Cond.code ({ cls := "OpensAtNine", name := "worth", desc := "(I)I" } : Jvm.MethodName) prog_1_method_15_code (2 : Nat) (Option.some Jvm.ClassFile.FieldType.int)) ∈ XT := XT3 115 rfl rfl
theorem tw664 : (Jvm.Cond.methodLink "OpensAtNine" (171 : Nat) ({ cls := "OpensAtNine$Gate", name := "worthOf", desc := "(I)I" } : Jvm.MethodName)) ∈ XT := XT3 116 rfl rfl
theorem tw665 : (Jvm.Cond.instanceMethod ({ cls := "OpensAtNine$Gate", name := "worthOf", desc := "(I)I" } : Jvm.MethodName)) ∈ XT := XT3 117 rfl rfl
theorem tw666 : (Jvm.Cond.selects "OpensAtNine$Gate" ({ cls := "OpensAtNine$Gate", name := "worthOf", desc := "(I)I" } : Jvm.MethodName) ({ cls := "OpensAtNine$Gate", name := "worthOf", desc := "(I)I" } : Jvm.MethodName)) ∈ XT := XT3 118 rfl rfl
theorem tw667 : (Jvm.Cond.code ({ cls := "OpensAtNine$Gate", name := "worthOf", desc := "(I)I" } : Jvm.MethodName) prog_3_method_17_code (4 : Nat) (Option.some Jvm.ClassFile.FieldType.int)) ∈ XT := XT3 119 rfl rfl
theorem tw668 : (Jvm.Cond.constant "OpensAtNine" (174 : Nat) (-100000 : Int32)) ∈ XT := XT3 120 rfl rfl
theorem tw669 : (Jvm.Cond.methodLink "OpensAtNineLaw" (71 : Nat) ({ cls := "OpensAtNine", name := "gang", desc := "(II)I" } : Jvm.MethodName)) ∈ XT := XT3 121 rfl rfl
theorem tw670 : (Jvm.Cond.instanceMethod ({ cls := "OpensAtNine", name := "gang", desc := "(II)I" } : Jvm.MethodName)) ∈ XT := XT3 122 rfl rfl
theorem tw671 : (Jvm.Cond.selects "OpensAtNine" ({ cls := "OpensAtNine", name := "gang", desc := "(II)I" } : Jvm.MethodName) ({ cls := "OpensAtNine", name := "gang", desc := "(II)I" } : Jvm.MethodName)) ∈ XT := XT3 123 rfl rfl
theorem tw672 : (Jvm.Cond.code ({ cls := "OpensAtNine", name := "gang", desc := "(II)I" } : Jvm.MethodName) prog_1_method_16_code (4 : Nat) (Option.some Jvm.ClassFile.FieldType.int)) ∈ XT := XT3 124 rfl rfl
theorem tw673 : (Jvm.Cond.methodLink "OpensAtNine" (175 : Nat) ({ cls := "OpensAtNine$Ways", name := "cheapest", desc := "(LOpensAtNine$Gate;I)I" } : Jvm.MethodName)) ∈ XT := XT3 125 rfl rfl
theorem tw674 : (Jvm.Cond.instanceMethod ({ cls := "OpensAtNine$Ways", name := "cheapest", desc := "(LOpensAtNine$Gate;I)I" } : Jvm.MethodName)) ∈ XT := XT3 126 rfl rfl
theorem tw675 : (Jvm.Cond.selects "OpensAtNine$Ways" ({ cls := "OpensAtNine$Ways", name := "cheapest", desc := "(LOpensAtNine$Gate;I)I" } : Jvm.MethodName) ({ cls := "OpensAtNine$Ways", name := "cheapest", desc := "(LOpensAtNine$Gate;I)I" } : Jvm.MethodName)) ∈ XT := XT3 127 rfl rfl
theorem tw676 : (Jvm.Cond.code ({ cls := "OpensAtNine$Ways", name := "cheapest", desc := "(LOpensAtNine$Gate;I)I" } : Jvm.MethodName) prog_9_method_2_code (3 : Nat) (Option.some Jvm.ClassFile.FieldType.int)) ∈ XT := XT3 128 rfl rfl
theorem tw677 : (Jvm.Cond.methodLink "OpensAtNine$Ways" (19 : Nat) ({ cls := "OpensAtNine$Gate", name := "become", desc := "(LOpensAtNine$Gate;)V" } : Jvm.MethodName)) ∈ XT := XT3 129 rfl rfl
theorem tw678 : (Jvm.Cond.instanceMethod ({ cls := "OpensAtNine$Gate", name := "become", desc := "(LOpensAtNine$Gate;)V" } : Jvm.MethodName)) ∈ XT := XT3 130 rfl rfl
theorem tw679 : (Jvm.Cond.selects "OpensAtNine$Gate" ({ cls := "OpensAtNine$Gate", name := "become", desc := "(LOpensAtNine$Gate;)V" } : Jvm.MethodName) ({ cls := "OpensAtNine$Gate", name := "become", desc := "(LOpensAtNine$Gate;)V" } : Jvm.MethodName)) ∈ XT := XT3 131 rfl rfl
theorem tw680 : (Jvm.Cond.code ({ cls := "OpensAtNine$Gate", name := "become", desc := "(LOpensAtNine$Gate;)V" } : Jvm.MethodName) prog_3_method_2_code (3 : Nat) (Option.none : Option Jvm.ClassFile.FieldType)) ∈ XT := XT3 132 rfl rfl
theorem tw681 : (Jvm.Cond.methodLink "OpensAtNine$Ways" (25 : Nat) ({ cls := "OpensAtNine$Met", name := "forgetAll", desc := "()V" } : Jvm.MethodName)) ∈ XT := XT3 133 rfl rfl
theorem tw682 : (Jvm.Cond.instanceMethod ({ cls := "OpensAtNine$Met", name := "forgetAll", desc := "()V" } : Jvm.MethodName)) ∈ XT := XT3 134 rfl rfl
theorem tw683 : (Jvm.Cond.selects "OpensAtNine$Met" ({ cls := "OpensAtNine$Met", name := "forgetAll", desc := "()V" } : Jvm.MethodName) ({ cls := "OpensAtNine$Met", name := "forgetAll", desc := "()V" } : Jvm.MethodName)) ∈ XT := XT3 135 rfl rfl
theorem tw684 : (Jvm.Cond.code ({ cls := "OpensAtNine$Met", name := "forgetAll", desc := "()V" } : Jvm.MethodName) prog_4_method_2_code (1 : Nat) (Option.none : Option Jvm.ClassFile.FieldType)) ∈ XT := XT3 136 rfl rfl
theorem tw685 : (Jvm.Cond.methodLink "OpensAtNine$Met" (13 : Nat) ({ cls := "java/util/Arrays", name := "fill", desc := "([II)V" } : Jvm.MethodName)) ∈ XT := XT3 137 rfl rfl
theorem tw686 : (Jvm.Cond.static ({ cls := "java/util/Arrays", name := "fill", desc := "([II)V" } : Jvm.MethodName)) ∈ XT := XT3 138 rfl rfl
theorem tw687 : (Jvm.Cond.code ({ cls := "java/util/Arrays", name := "fill", desc := "([II)V" } : Jvm.MethodName) prog_19_method_103_code (4 : Nat) (Option.none : Option Jvm.ClassFile.FieldType)) ∈ XT := XT3 139 rfl rfl
theorem tw688 : (Jvm.Cond.methodLink "OpensAtNine$Ways" (37 : Nat) ({ cls := "OpensAtNine$Ways", name := "goOn", desc := "(III)V" } : Jvm.MethodName)) ∈ XT := XT3 140 rfl rfl
theorem tw690 : (Jvm.Cond.instanceMethod ({ cls := "OpensAtNine$Ways", name := "goOn", desc := "(III)V" } : Jvm.MethodName)) ∈ XT := XT3 142 rfl rfl
theorem tw691 : (Jvm.Cond.code ({ cls := "OpensAtNine$Ways", name := "goOn", desc := "(III)V" } : Jvm.MethodName) prog_9_method_3_code (12 : Nat) (Option.none : Option Jvm.ClassFile.FieldType)) ∈ XT := XT3 143 rfl rfl
theorem tw692 : (Jvm.Cond.methodLink "OpensAtNine$Ways" (53 : Nat) ({ cls := "OpensAtNine$Met", name := "knows", desc := "(I)Z" } : Jvm.MethodName)) ∈ XT := XT3 144 rfl rfl
theorem tw693 : (Jvm.Cond.instanceMethod ({ cls := "OpensAtNine$Met", name := "knows", desc := "(I)Z" } : Jvm.MethodName)) ∈ XT := XT3 145 rfl rfl
theorem tw694 : (Jvm.Cond.selects "OpensAtNine$Met" ({ cls := "OpensAtNine$Met", name := "knows", desc := "(I)Z" } : Jvm.MethodName) ({ cls := "OpensAtNine$Met", name := "knows", desc := "(I)Z" } : Jvm.MethodName)) ∈ XT := XT3 146 rfl rfl
theorem tw695 : (Jvm.Cond.code ({ cls := "OpensAtNine$Met", name := "knows", desc := "(I)Z" } : Jvm.MethodName) prog_4_method_4_code (2 : Nat) (Option.some Jvm.ClassFile.FieldType.boolean)) ∈ XT := XT3 147 rfl rfl
theorem tw696 : (Jvm.Cond.methodLink "OpensAtNine$Met" (20 : Nat) ({ cls := "OpensAtNine$Met", name := "slotOf", desc := "(I)I" } : Jvm.MethodName)) ∈ XT := XT3 148 rfl rfl
theorem tw697 : (Jvm.Cond.instanceMethod ({ cls := "OpensAtNine$Met", name := "slotOf", desc := "(I)I" } : Jvm.MethodName)) ∈ XT := XT3 149 rfl rfl
theorem tw698 : (Jvm.Cond.selects "OpensAtNine$Met" ({ cls := "OpensAtNine$Met", name := "slotOf", desc := "(I)I" } : Jvm.MethodName) ({ cls := "OpensAtNine$Met", name := "slotOf", desc := "(I)I" } : Jvm.MethodName)) ∈ XT := XT3 150 rfl rfl
theorem tw699 : (Jvm.Cond.code ({ cls := "OpensAtNine$Met", name := "slotOf", desc := "(I)I" } : Jvm.MethodName) prog_4_method_3_code (2 : Nat) (Option.some Jvm.ClassFile.FieldType.int)) ∈ XT := XT3 151 rfl rfl
theorem tw700 : (Jvm.Cond.constant "OpensAtNine$Met" (19 : Nat) (-1640531535 : Int32)) ∈ XT := XT3 152 rfl rfl
theorem tw701 : (Jvm.Cond.methodLink "OpensAtNine$Ways" (57 : Nat) ({ cls := "OpensAtNine$Met", name := "note", desc := "(I)V" } : Jvm.MethodName)) ∈ XT := XT3 153 rfl rfl
theorem tw702 : (Jvm.Cond.instanceMethod ({ cls := "OpensAtNine$Met", name := "note", desc := "(I)V" } : Jvm.MethodName)) ∈ XT := XT3 154 rfl rfl
theorem tw703 : (Jvm.Cond.selects "OpensAtNine$Met" ({ cls := "OpensAtNine$Met", name := "note", desc := "(I)V" } : Jvm.MethodName) ({ cls := "OpensAtNine$Met", name := "note", desc := "(I)V" } : Jvm.MethodName)) ∈ XT := XT3 155 rfl rfl
theorem tw704 : (Jvm.Cond.code ({ cls := "OpensAtNine$Met", name := "note", desc := "(I)V" } : Jvm.MethodName) prog_4_method_5_code (2 : Nat) (Option.none : Option Jvm.ClassFile.FieldType)) ∈ XT := XT3 156 rfl rfl
theorem tw705 : (Jvm.Cond.methodLink "OpensAtNine$Ways" (64 : Nat) ({ cls := "OpensAtNine$Gate", name := "movable", desc := "(I)I" } : Jvm.MethodName)) ∈ XT := XT3 157 rfl rfl
theorem tw706 : (Jvm.Cond.instanceMethod ({ cls := "OpensAtNine$Gate", name := "movable", desc := "(I)I" } : Jvm.MethodName)) ∈ XT := XT3 158 rfl rfl
theorem tw707 : (Jvm.Cond.selects "OpensAtNine$Gate" ({ cls := "OpensAtNine$Gate", name := "movable", desc := "(I)I" } : Jvm.MethodName) ({ cls := "OpensAtNine$Gate", name := "movable", desc := "(I)I" } : Jvm.MethodName)) ∈ XT := XT3 159 rfl rfl
theorem tw708 : (Jvm.Cond.code ({ cls := "OpensAtNine$Gate", name := "movable", desc := "(I)I" } : Jvm.MethodName) prog_3_method_11_code (4 : Nat) (Option.some Jvm.ClassFile.FieldType.int)) ∈ XT := XT3 160 rfl rfl
theorem tw709 : (Jvm.Cond.methodLink "OpensAtNine$Ways" (68 : Nat) ({ cls := "OpensAtNine$Gate", name := "costOf", desc := "(I)I" } : Jvm.MethodName)) ∈ XT := XT3 161 rfl rfl
theorem tw710 : (Jvm.Cond.instanceMethod ({ cls := "OpensAtNine$Gate", name := "costOf", desc := "(I)I" } : Jvm.MethodName)) ∈ XT := XT3 162 rfl rfl
theorem tw711 : (Jvm.Cond.selects "OpensAtNine$Gate" ({ cls := "OpensAtNine$Gate", name := "costOf", desc := "(I)I" } : Jvm.MethodName) ({ cls := "OpensAtNine$Gate", name := "costOf", desc := "(I)I" } : Jvm.MethodName)) ∈ XT := XT3 163 rfl rfl
theorem tw712 : (Jvm.Cond.code ({ cls := "OpensAtNine$Gate", name := "costOf", desc := "(I)I" } : Jvm.MethodName) prog_3_method_16_code (3 : Nat) (Option.some Jvm.ClassFile.FieldType.int)) ∈ XT := XT3 164 rfl rfl
theorem tw713 : (Jvm.Cond.methodLink "OpensAtNine$Gate" (98 : Nat) ({ cls := "OpensAtNine$Coin", name := "costs", desc := "()I" } : Jvm.MethodName)) ∈ XT := XT3 165 rfl rfl
theorem tw714 : (Jvm.Cond.methodLink "OpensAtNine$Ways" (71 : Nat) ({ cls := "OpensAtNine$Gate", name := "putIn", desc := "(I)Z" } : Jvm.MethodName)) ∈ XT := XT3 166 rfl rfl
theorem tw715 : (Jvm.Cond.methodLink "OpensAtNine$Ways" (74 : Nat) ({ cls := "OpensAtNine$Gate", name := "undo", desc := "(IIII)V" } : Jvm.MethodName)) ∈ XT := XT3 167 rfl rfl
theorem tw716 : (Jvm.Cond.instanceMethod ({ cls := "OpensAtNine$Gate", name := "undo", desc := "(IIII)V" } : Jvm.MethodName)) ∈ XT := XT3 168 rfl rfl
theorem tw717 : (Jvm.Cond.selects "OpensAtNine$Gate" ({ cls := "OpensAtNine$Gate", name := "undo", desc := "(IIII)V" } : Jvm.MethodName) ({ cls := "OpensAtNine$Gate", name := "undo", desc := "(IIII)V" } : Jvm.MethodName)) ∈ XT := XT3 169 rfl rfl
theorem tw718 : (Jvm.Cond.code ({ cls := "OpensAtNine$Gate", name := "undo", desc := "(IIII)V" } : Jvm.MethodName) prog_3_method_3_code (5 : Nat) (Option.none : Option Jvm.ClassFile.FieldType)) ∈ XT := XT3 170 rfl rfl
theorem tw719 : (Jvm.Cond.methodLink "OpensAtNine" (182 : Nat) ({ cls := "OpensAtNine", name := "digitsOf", desc := "(I)I" } : Jvm.MethodName)) ∈ XT := XT3 171 rfl rfl
theorem tw720 : (Jvm.Cond.static ({ cls := "OpensAtNine", name := "digitsOf", desc := "(I)I" } : Jvm.MethodName)) ∈ XT := XT3 172 rfl rfl
theorem tw721 : (Jvm.Cond.code ({ cls := "OpensAtNine", name := "digitsOf", desc := "(I)I" } : Jvm.MethodName) prog_1_method_17_code (2 : Nat) (Option.some Jvm.ClassFile.FieldType.int)) ∈ XT := XT3 173 rfl rfl
theorem tw722 : (Jvm.Cond.fieldLink "OpensAtNine" (185 : Nat) "OpensAtNine" "TENS" "[I") ∈ XT := XT3 174 rfl rfl
theorem tw724 : (Jvm.Cond.methodLink "OpensAtNineLaw" (75 : Nat) ({ cls := "OpensAtNine", name := "spare", desc := "(II)I" } : Jvm.MethodName)) ∈ XT := XT3 176 rfl rfl
theorem tw725 : (Jvm.Cond.instanceMethod ({ cls := "OpensAtNine", name := "spare", desc := "(II)I" } : Jvm.MethodName)) ∈ XT := XT3 177 rfl rfl
theorem tw726 : (Jvm.Cond.selects "OpensAtNine" ({ cls := "OpensAtNine", name := "spare", desc := "(II)I" } : Jvm.MethodName) ({ cls := "OpensAtNine", name := "spare", desc := "(II)I" } : Jvm.MethodName)) ∈ XT := XT3 178 rfl rfl
theorem tw727 : (Jvm.Cond.code ({ cls := "OpensAtNine", name := "spare", desc := "(II)I" } : Jvm.MethodName) prog_1_method_18_code (6 : Nat) (Option.some Jvm.ClassFile.FieldType.int)) ∈ XT := XT3 179 rfl rfl
theorem tw728 : (Jvm.Cond.methodLink "OpensAtNine" (189 : Nat) ({ cls := "OpensAtNine$Gate", name := "become", desc := "(LOpensAtNine$Gate;)V" } : Jvm.MethodName)) ∈ XT := XT3 180 rfl rfl
theorem tw729 : (Jvm.Cond.methodLink "OpensAtNine" (193 : Nat) ({ cls := "OpensAtNine$Gate", name := "follow", desc := "(I)V" } : Jvm.MethodName)) ∈ XT := XT3 181 rfl rfl
theorem tw730 : (Jvm.Cond.instanceMethod ({ cls := "OpensAtNine$Gate", name := "follow", desc := "(I)V" } : Jvm.MethodName)) ∈ XT := XT3 182 rfl rfl
theorem tw731 : (Jvm.Cond.selects "OpensAtNine$Gate" ({ cls := "OpensAtNine$Gate", name := "follow", desc := "(I)V" } : Jvm.MethodName) ({ cls := "OpensAtNine$Gate", name := "follow", desc := "(I)V" } : Jvm.MethodName)) ∈ XT := XT3 183 rfl rfl
theorem tw732 : (Jvm.Cond.code ({ cls := "OpensAtNine$Gate", name := "follow", desc := "(I)V" } : Jvm.MethodName) prog_3_method_15_code (4 : Nat) (Option.none : Option Jvm.ClassFile.FieldType)) ∈ XT := XT3 184 rfl rfl
theorem tw734 : (Jvm.Cond.methodLink "OpensAtNine$Gate" (95 : Nat) ({ cls := "OpensAtNine$Gate", name := "putIn", desc := "(I)Z" } : Jvm.MethodName)) ∈ XT := XT3 186 rfl rfl
theorem tw735 : (Jvm.Cond.methodLink "OpensAtNineLaw" (79 : Nat) ({ cls := "OpensAtNine", name := "reach", desc := "(I)I" } : Jvm.MethodName)) ∈ XT := XT3 187 rfl rfl
theorem tw736 : (Jvm.Cond.instanceMethod ({ cls := "OpensAtNine", name := "reach", desc := "(I)I" } : Jvm.MethodName)) ∈ XT := XT3 188 rfl rfl
theorem tw737 : (Jvm.Cond.selects "OpensAtNine" ({ cls := "OpensAtNine", name := "reach", desc := "(I)I" } : Jvm.MethodName) ({ cls := "OpensAtNine", name := "reach", desc := "(I)I" } : Jvm.MethodName)) ∈ XT := XT3 189 rfl rfl
theorem tw738 : (Jvm.Cond.code ({ cls := "OpensAtNine", name := "reach", desc := "(I)I" } : Jvm.MethodName) prog_1_method_19_code (2 : Nat) (Option.some Jvm.ClassFile.FieldType.int)) ∈ XT := XT3 190 rfl rfl
theorem tw739 : (Jvm.Cond.methodLink "OpensAtNine" (196 : Nat) ({ cls := "OpensAtNine$Ways", name := "restsBy", desc := "(LOpensAtNine$Gate;I)I" } : Jvm.MethodName)) ∈ XT := XT3 191 rfl rfl
theorem tw740 : (Jvm.Cond.instanceMethod ({ cls := "OpensAtNine$Ways", name := "restsBy", desc := "(LOpensAtNine$Gate;I)I" } : Jvm.MethodName)) ∈ XT := XT3 192 rfl rfl
theorem tw741 : (Jvm.Cond.selects "OpensAtNine$Ways" ({ cls := "OpensAtNine$Ways", name := "restsBy", desc := "(LOpensAtNine$Gate;I)I" } : Jvm.MethodName) ({ cls := "OpensAtNine$Ways", name := "restsBy", desc := "(LOpensAtNine$Gate;I)I" } : Jvm.MethodName)) ∈ XT := XT3 193 rfl rfl
theorem tw742 : (Jvm.Cond.code ({ cls := "OpensAtNine$Ways", name := "restsBy", desc := "(LOpensAtNine$Gate;I)I" } : Jvm.MethodName) prog_9_method_4_code (3 : Nat) (Option.some Jvm.ClassFile.FieldType.int)) ∈ XT := XT3 194 rfl rfl
theorem tw743 : (Jvm.Cond.methodLink "OpensAtNine$Ways" (81 : Nat) ({ cls := "OpensAtNine$Gate", name := "leftOf", desc := "(I)I" } : Jvm.MethodName)) ∈ XT := XT3 195 rfl rfl
theorem tw744 : (Jvm.Cond.methodLink "OpensAtNine$Ways" (84 : Nat) ({ cls := "OpensAtNine$Ways", name := "addRests", desc := "(III)V" } : Jvm.MethodName)) ∈ XT := XT3 196 rfl rfl
theorem tw746 : (Jvm.Cond.instanceMethod ({ cls := "OpensAtNine$Ways", name := "addRests", desc := "(III)V" } : Jvm.MethodName)) ∈ XT := XT3 198 rfl rfl
theorem tw747 : (Jvm.Cond.code ({ cls := "OpensAtNine$Ways", name := "addRests", desc := "(III)V" } : Jvm.MethodName) prog_9_method_5_code (7 : Nat) (Option.none : Option Jvm.ClassFile.FieldType)) ∈ XT := XT3 199 rfl rfl
theorem tw748 : (Jvm.Cond.methodLink "OpensAtNine$Ways" (87 : Nat) ({ cls := "OpensAtNine$Gate", name := "restOf", desc := "(I)I" } : Jvm.MethodName)) ∈ XT := XT3 200 rfl rfl
theorem tw749 : (Jvm.Cond.methodLink "OpensAtNine$Ways" (90 : Nat) ({ cls := "OpensAtNine$Gate", name := "coinAt", desc := "(I)LOpensAtNine$Coin;" } : Jvm.MethodName)) ∈ XT := XT3 201 rfl rfl
theorem tw750 : (Jvm.Cond.methodLink "OpensAtNine$Ways" (94 : Nat) ({ cls := "OpensAtNine$Coin", name := "countsBy", desc := "(I)I" } : Jvm.MethodName)) ∈ XT := XT3 202 rfl rfl
theorem tw751 : (Jvm.Cond.methodLink "OpensAtNine$Ways" (99 : Nat) ({ cls := "java/lang/Math", name := "min", desc := "(II)I" } : Jvm.MethodName)) ∈ XT := XT3 203 rfl rfl
theorem tw752 : (Jvm.Cond.methodLink "OpensAtNineLaw" (83 : Nat) ({ cls := "OpensAtNine", name := "keys", desc := "()I" } : Jvm.MethodName)) ∈ XT := XT3 204 rfl rfl
theorem tw753 : (Jvm.Cond.instanceMethod ({ cls := "OpensAtNine", name := "keys", desc := "()I" } : Jvm.MethodName)) ∈ XT := XT3 205 rfl rfl
theorem tw754 : (Jvm.Cond.selects "OpensAtNine" ({ cls := "OpensAtNine", name := "keys", desc := "()I" } : Jvm.MethodName) ({ cls := "OpensAtNine", name := "keys", desc := "()I" } : Jvm.MethodName)) ∈ XT := XT3 206 rfl rfl
theorem tw755 : (Jvm.Cond.code ({ cls := "OpensAtNine", name := "keys", desc := "()I" } : Jvm.MethodName) prog_1_method_20_code (4 : Nat) (Option.some Jvm.ClassFile.FieldType.int)) ∈ XT := XT3 207 rfl rfl
theorem tw756 : (Jvm.Cond.methodLink "OpensAtNine" (199 : Nat) ({ cls := "OpensAtNine$Gate", name := "movable", desc := "(I)I" } : Jvm.MethodName)) ∈ XT := XT3 208 rfl rfl
theorem tw757 : (Jvm.Cond.methodLink "OpensAtNineLaw" (87 : Nat) ({ cls := "OpensAtNine", name := "gifts", desc := "()I" } : Jvm.MethodName)) ∈ XT := XT3 209 rfl rfl
theorem tw758 : (Jvm.Cond.instanceMethod ({ cls := "OpensAtNine", name := "gifts", desc := "()I" } : Jvm.MethodName)) ∈ XT := XT3 210 rfl rfl
theorem tw759 : (Jvm.Cond.selects "OpensAtNine" ({ cls := "OpensAtNine", name := "gifts", desc := "()I" } : Jvm.MethodName) ({ cls := "OpensAtNine", name := "gifts", desc := "()I" } : Jvm.MethodName)) ∈ XT := XT3 211 rfl rfl
theorem tw760 : (Jvm.Cond.code ({ cls := "OpensAtNine", name := "gifts", desc := "()I" } : Jvm.MethodName) prog_1_method_21_code (4 : Nat) (Option.some Jvm.ClassFile.FieldType.int)) ∈ XT := XT3 212 rfl rfl
theorem tw761 : (Jvm.Cond.methodLink "OpensAtNine" (202 : Nat) ({ cls := "OpensAtNine", name := "isGift", desc := "(II)Z" } : Jvm.MethodName)) ∈ XT := XT3 213 rfl rfl
theorem tw763 : (Jvm.Cond.instanceMethod ({ cls := "OpensAtNine", name := "isGift", desc := "(II)Z" } : Jvm.MethodName)) ∈ XT := XT3 215 rfl rfl
theorem tw764 : (Jvm.Cond.code ({ cls := "OpensAtNine", name := "isGift", desc := "(II)Z" } : Jvm.MethodName) prog_1_method_22_code (5 : Nat) (Option.some Jvm.ClassFile.FieldType.boolean)) ∈ XT := XT3 216 rfl rfl
theorem tw765 : (Jvm.Cond.methodLink "OpensAtNine" (206 : Nat) ({ cls := "OpensAtNine$Gate", name := "leftOf", desc := "(I)I" } : Jvm.MethodName)) ∈ XT := XT3 217 rfl rfl
theorem tw766 : (Jvm.Cond.methodLink "OpensAtNineLaw" (91 : Nat) ({ cls := "OpensAtNine", name := "rest", desc := "(II)I" } : Jvm.MethodName)) ∈ XT := XT3 218 rfl rfl
theorem tw767 : (Jvm.Cond.instanceMethod ({ cls := "OpensAtNine", name := "rest", desc := "(II)I" } : Jvm.MethodName)) ∈ XT := XT3 219 rfl rfl
theorem tw768 : (Jvm.Cond.selects "OpensAtNine" ({ cls := "OpensAtNine", name := "rest", desc := "(II)I" } : Jvm.MethodName) ({ cls := "OpensAtNine", name := "rest", desc := "(II)I" } : Jvm.MethodName)) ∈ XT := XT3 220 rfl rfl
theorem tw769 : (Jvm.Cond.code ({ cls := "OpensAtNine", name := "rest", desc := "(II)I" } : Jvm.MethodName) prog_1_method_23_code (3 : Nat) (Option.some Jvm.ClassFile.FieldType.int)) ∈ XT := XT3 221 rfl rfl
theorem tw770 : (Jvm.Cond.methodLink "OpensAtNine" (209 : Nat) ({ cls := "OpensAtNine", name := "areTurns", desc := "(I)Z" } : Jvm.MethodName)) ∈ XT := XT3 222 rfl rfl
theorem tw771 : (Jvm.Cond.static ({ cls := "OpensAtNine", name := "areTurns", desc := "(I)Z" } : Jvm.MethodName)) ∈ XT := XT3 223 rfl rfl
theorem tw772 : (Jvm.Cond.code ({ cls := "OpensAtNine", name := "areTurns", desc := "(I)Z" } : Jvm.MethodName) prog_1_method_26_code (1 : Nat) (Option.some Jvm.ClassFile.FieldType.boolean)) ∈ XT := XT3 224 rfl rfl
theorem tw773 : (Jvm.Cond.methodLink "OpensAtNine" (212 : Nat) ({ cls := "OpensAtNine$Turns", name := "think", desc := "(LOpensAtNine$Gate;I)V" } : Jvm.MethodName)) ∈ XT := XT3 225 rfl rfl
theorem tw774 : (Jvm.Cond.instanceMethod ({ cls := "OpensAtNine$Turns", name := "think", desc := "(LOpensAtNine$Gate;I)V" } : Jvm.MethodName)) ∈ XT := XT3 226 rfl rfl
theorem tw775 : (Jvm.Cond.selects "OpensAtNine$Turns" ({ cls := "OpensAtNine$Turns", name := "think", desc := "(LOpensAtNine$Gate;I)V" } : Jvm.MethodName) ({ cls := "OpensAtNine$Turns", name := "think", desc := "(LOpensAtNine$Gate;I)V" } : Jvm.MethodName)) ∈ XT := XT3 227 rfl rfl
theorem tw776 : (Jvm.Cond.code ({ cls := "OpensAtNine$Turns", name := "think", desc := "(LOpensAtNine$Gate;I)V" } : Jvm.MethodName) prog_8_method_2_code (3 : Nat) (Option.none : Option Jvm.ClassFile.FieldType)) ∈ XT := XT3 228 rfl rfl
theorem tw777 : (Jvm.Cond.methodLink "OpensAtNine$Turns" (36 : Nat) ({ cls := "OpensAtNine$Gate", name := "become", desc := "(LOpensAtNine$Gate;)V" } : Jvm.MethodName)) ∈ XT := XT3 229 rfl rfl
theorem tw778 : (Jvm.Cond.methodLink "OpensAtNine$Turns" (42 : Nat) ({ cls := "OpensAtNine$Met", name := "forgetAll", desc := "()V" } : Jvm.MethodName)) ∈ XT := XT3 230 rfl rfl
theorem tw779 : (Jvm.Cond.methodLink "OpensAtNine$Turns" (45 : Nat) ({ cls := "java/lang/Math", name := "min", desc := "(II)I" } : Jvm.MethodName)) ∈ XT := XT3 231 rfl rfl
theorem tw780 : (Jvm.Cond.methodLink "OpensAtNine$Turns" (51 : Nat) ({ cls := "java/lang/Math", name := "max", desc := "(II)I" } : Jvm.MethodName)) ∈ XT := XT3 232 rfl rfl
theorem tw781 : (Jvm.Cond.methodLink "OpensAtNine$Turns" (58 : Nat) ({ cls := "OpensAtNine$Turns", name := "solve", desc := "(I)V" } : Jvm.MethodName)) ∈ XT := XT3 233 rfl rfl
theorem tw783 : (Jvm.Cond.instanceMethod ({ cls := "OpensAtNine$Turns", name := "solve", desc := "(I)V" } : Jvm.MethodName)) ∈ XT := XT3 235 rfl rfl
theorem tw784 : (Jvm.Cond.code ({ cls := "OpensAtNine$Turns", name := "solve", desc := "(I)V" } : Jvm.MethodName) prog_8_method_5_code (11 : Nat) (Option.none : Option Jvm.ClassFile.FieldType)) ∈ XT := XT3 236 rfl rfl
theorem tw785 : (Jvm.Cond.methodLink "OpensAtNine$Turns" (65 : Nat) ({ cls := "OpensAtNine$Turns", name := "settle", desc := "(I)V" } : Jvm.MethodName)) ∈ XT := XT3 237 rfl rfl
theorem tw787 : (Jvm.Cond.instanceMethod ({ cls := "OpensAtNine$Turns", name := "settle", desc := "(I)V" } : Jvm.MethodName)) ∈ XT := XT3 239 rfl rfl
theorem tw788 : (Jvm.Cond.code ({ cls := "OpensAtNine$Turns", name := "settle", desc := "(I)V" } : Jvm.MethodName) prog_8_method_8_code (3 : Nat) (Option.none : Option Jvm.ClassFile.FieldType)) ∈ XT := XT4 0 rfl rfl
theorem tw789 : (Jvm.Cond.methodLink "OpensAtNine$Turns" (117 : Nat) ({ cls := "OpensAtNine$Gate", name := "worthOf", desc := "(I)I" } : Jvm.MethodName)) ∈ XT := XT4 1 rfl rfl
theorem tw790 : (Jvm.Cond.methodLink "OpensAtNine$Turns" (77 : Nat) ({ cls := "OpensAtNine$Met", name := "knows", desc := "(I)Z" } : Jvm.MethodName)) ∈ XT := XT4 2 rfl rfl
theorem tw791 : (Jvm.Cond.methodLink "OpensAtNine$Turns" (81 : Nat) ({ cls := "OpensAtNine$Met", name := "slotOf", desc := "(I)I" } : Jvm.MethodName)) ∈ XT := XT4 3 rfl rfl
theorem tw792 : (Jvm.Cond.methodLink "OpensAtNine$Turns" (85 : Nat) ({ cls := "OpensAtNine$Turns", name := "recall", desc := "(II)V" } : Jvm.MethodName)) ∈ XT := XT4 4 rfl rfl
theorem tw794 : (Jvm.Cond.instanceMethod ({ cls := "OpensAtNine$Turns", name := "recall", desc := "(II)V" } : Jvm.MethodName)) ∈ XT := XT4 6 rfl rfl
theorem tw795 : (Jvm.Cond.code ({ cls := "OpensAtNine$Turns", name := "recall", desc := "(II)V" } : Jvm.MethodName) prog_8_method_7_code (4 : Nat) (Option.none : Option Jvm.ClassFile.FieldType)) ∈ XT := XT4 7 rfl rfl
theorem tw796 : (Jvm.Cond.methodLink "OpensAtNine$Turns" (92 : Nat) ({ cls := "OpensAtNine$Gate", name := "movable", desc := "(I)I" } : Jvm.MethodName)) ∈ XT := XT4 8 rfl rfl
theorem tw797 : (Jvm.Cond.methodLink "OpensAtNine$Turns" (95 : Nat) ({ cls := "OpensAtNine$Gate", name := "waitOn", desc := "()V" } : Jvm.MethodName)) ∈ XT := XT4 9 rfl rfl
theorem tw798 : (Jvm.Cond.methodLink "OpensAtNine$Turns" (98 : Nat) ({ cls := "OpensAtNine$Turns", name := "choose", desc := "(IIII)V" } : Jvm.MethodName)) ∈ XT := XT4 10 rfl rfl
theorem tw800 : (Jvm.Cond.instanceMethod ({ cls := "OpensAtNine$Turns", name := "choose", desc := "(IIII)V" } : Jvm.MethodName)) ∈ XT := XT4 12 rfl rfl
theorem tw801 : (Jvm.Cond.code ({ cls := "OpensAtNine$Turns", name := "choose", desc := "(IIII)V" } : Jvm.MethodName) prog_8_method_9_code (6 : Nat) (Option.none : Option Jvm.ClassFile.FieldType)) ∈ XT := XT4 13 rfl rfl
theorem tw803 : (Jvm.Cond.methodLink "OpensAtNine$Turns" (102 : Nat) ({ cls := "OpensAtNine$Gate", name := "undo", desc := "(IIII)V" } : Jvm.MethodName)) ∈ XT := XT4 15 rfl rfl
theorem tw804 : (Jvm.Cond.methodLink "OpensAtNine$Turns" (105 : Nat) ({ cls := "OpensAtNine$Gate", name := "costOf", desc := "(I)I" } : Jvm.MethodName)) ∈ XT := XT4 16 rfl rfl
theorem tw805 : (Jvm.Cond.methodLink "OpensAtNine$Turns" (108 : Nat) ({ cls := "OpensAtNine$Gate", name := "putIn", desc := "(I)Z" } : Jvm.MethodName)) ∈ XT := XT4 17 rfl rfl
theorem tw806 : (Jvm.Cond.methodLink "OpensAtNine$Turns" (111 : Nat) ({ cls := "OpensAtNine$Met", name := "note", desc := "(I)V" } : Jvm.MethodName)) ∈ XT := XT4 18 rfl rfl
theorem tw807 : (Jvm.Cond.methodLink "OpensAtNine$Turns" (114 : Nat) ({ cls := "OpensAtNine$Turns", name := "keep", desc := "(II)V" } : Jvm.MethodName)) ∈ XT := XT4 19 rfl rfl
theorem tw809 : (Jvm.Cond.instanceMethod ({ cls := "OpensAtNine$Turns", name := "keep", desc := "(II)V" } : Jvm.MethodName)) ∈ XT := XT4 21 rfl rfl
theorem tw810 : (Jvm.Cond.code ({ cls := "OpensAtNine$Turns", name := "keep", desc := "(II)V" } : Jvm.MethodName) prog_8_method_6_code (4 : Nat) (Option.none : Option Jvm.ClassFile.FieldType)) ∈ XT := XT4 22 rfl rfl
theorem tw811 : (Jvm.Cond.methodLink "OpensAtNine" (216 : Nat) ({ cls := "OpensAtNine$Turns", name := "endOf", desc := "(I)I" } : Jvm.MethodName)) ∈ XT := XT4 23 rfl rfl
theorem tw812 : (Jvm.Cond.instanceMethod ({ cls := "OpensAtNine$Turns", name := "endOf", desc := "(I)I" } : Jvm.MethodName)) ∈ XT := XT4 24 rfl rfl
theorem tw813 : (Jvm.Cond.selects "OpensAtNine$Turns" ({ cls := "OpensAtNine$Turns", name := "endOf", desc := "(I)I" } : Jvm.MethodName) ({ cls := "OpensAtNine$Turns", name := "endOf", desc := "(I)I" } : Jvm.MethodName)) ∈ XT := XT4 25 rfl rfl
theorem tw814 : (Jvm.Cond.code ({ cls := "OpensAtNine$Turns", name := "endOf", desc := "(I)I" } : Jvm.MethodName) prog_8_method_3_code (2 : Nat) (Option.some Jvm.ClassFile.FieldType.int)) ∈ XT := XT4 26 rfl rfl
theorem tw815 : (Jvm.Cond.methodLink "OpensAtNineLaw" (95 : Nat) ({ cls := "OpensAtNine", name := "moves", desc := "(I)I" } : Jvm.MethodName)) ∈ XT := XT4 27 rfl rfl
theorem tw816 : (Jvm.Cond.instanceMethod ({ cls := "OpensAtNine", name := "moves", desc := "(I)I" } : Jvm.MethodName)) ∈ XT := XT4 28 rfl rfl
theorem tw817 : (Jvm.Cond.selects "OpensAtNine" ({ cls := "OpensAtNine", name := "moves", desc := "(I)I" } : Jvm.MethodName) ({ cls := "OpensAtNine", name := "moves", desc := "(I)I" } : Jvm.MethodName)) ∈ XT := XT4 29 rfl rfl
theorem tw818 : (Jvm.Cond.code ({ cls := "OpensAtNine", name := "moves", desc := "(I)I" } : Jvm.MethodName) prog_1_method_24_code (2 : Nat) (Option.some Jvm.ClassFile.FieldType.int)) ∈ XT := XT4 30 rfl rfl
theorem tw819 : (Jvm.Cond.methodLink "OpensAtNine" (219 : Nat) ({ cls := "OpensAtNine$Turns", name := "line", desc := "()I" } : Jvm.MethodName)) ∈ XT := XT4 31 rfl rfl
theorem tw820 : (Jvm.Cond.instanceMethod ({ cls := "OpensAtNine$Turns", name := "line", desc := "()I" } : Jvm.MethodName)) ∈ XT := XT4 32 rfl rfl
theorem tw821 : (Jvm.Cond.selects "OpensAtNine$Turns" ({ cls := "OpensAtNine$Turns", name := "line", desc := "()I" } : Jvm.MethodName) ({ cls := "OpensAtNine$Turns", name := "line", desc := "()I" } : Jvm.MethodName)) ∈ XT := XT4 33 rfl rfl
theorem tw822 : (Jvm.Cond.code ({ cls := "OpensAtNine$Turns", name := "line", desc := "()I" } : Jvm.MethodName) prog_8_method_4_code (1 : Nat) (Option.some Jvm.ClassFile.FieldType.int)) ∈ XT := XT4 34 rfl rfl
theorem tw823 : (Jvm.Cond.methodLink "OpensAtNineLaw" (99 : Nat) ({ cls := "OpensAtNine", name := "play", desc := "(I)I" } : Jvm.MethodName)) ∈ XT := XT4 35 rfl rfl
theorem tw824 : (Jvm.Cond.instanceMethod ({ cls := "OpensAtNine", name := "play", desc := "(I)I" } : Jvm.MethodName)) ∈ XT := XT4 36 rfl rfl
theorem tw825 : (Jvm.Cond.selects "OpensAtNine" ({ cls := "OpensAtNine", name := "play", desc := "(I)I" } : Jvm.MethodName) ({ cls := "OpensAtNine", name := "play", desc := "(I)I" } : Jvm.MethodName)) ∈ XT := XT4 37 rfl rfl
theorem tw826 : (Jvm.Cond.code ({ cls := "OpensAtNine", name := "play", desc := "(I)I" } : Jvm.MethodName) prog_1_method_25_code (5 : Nat) (Option.some Jvm.ClassFile.FieldType.int)) ∈ XT := XT4 38 rfl rfl
theorem tw827 : (Jvm.Cond.methodLink "OpensAtNine" (222 : Nat) ({ cls := "OpensAtNine$Gate", name := "waitOn", desc := "()V" } : Jvm.MethodName)) ∈ XT := XT4 39 rfl rfl
theorem tw828 : (Jvm.Cond.methodLink "OpensAtNine" (225 : Nat) ({ cls := "java/lang/Integer", name := "bitCount", desc := "(I)I" } : Jvm.MethodName)) ∈ XT := XT4 40 rfl rfl
theorem tw829 : (Jvm.Cond.methodLink "OpensAtNineLaw" (103 : Nat) ({ cls := "OpensAtNine", name := "which", desc := "(II)I" } : Jvm.MethodName)) ∈ XT := XT4 41 rfl rfl
theorem tw830 : (Jvm.Cond.instanceMethod ({ cls := "OpensAtNine", name := "which", desc := "(II)I" } : Jvm.MethodName)) ∈ XT := XT4 42 rfl rfl
theorem tw831 : (Jvm.Cond.selects "OpensAtNine" ({ cls := "OpensAtNine", name := "which", desc := "(II)I" } : Jvm.MethodName) ({ cls := "OpensAtNine", name := "which", desc := "(II)I" } : Jvm.MethodName)) ∈ XT := XT4 43 rfl rfl
theorem tw832 : (Jvm.Cond.code ({ cls := "OpensAtNine", name := "which", desc := "(II)I" } : Jvm.MethodName) prog_1_method_27_code (4 : Nat) (Option.some Jvm.ClassFile.FieldType.int)) ∈ XT := XT4 44 rfl rfl
theorem tw833 : (Jvm.Cond.methodLink "OpensAtNine" (230 : Nat) ({ cls := "OpensAtNine", name := "refusedStart", desc := "(II)I" } : Jvm.MethodName)) ∈ XT := XT4 45 rfl rfl
theorem tw835 : (Jvm.Cond.instanceMethod ({ cls := "OpensAtNine", name := "refusedStart", desc := "(II)I" } : Jvm.MethodName)) ∈ XT := XT4 47 rfl rfl
theorem tw836 : (Jvm.Cond.code ({ cls := "OpensAtNine", name := "refusedStart", desc := "(II)I" } : Jvm.MethodName) prog_1_method_30_code (4 : Nat) (Option.some Jvm.ClassFile.FieldType.int)) ∈ XT := XT4 48 rfl rfl
theorem tw837 : (Jvm.Cond.methodLink "OpensAtNine" (251 : Nat) ({ cls := "OpensAtNine", name := "refusedRows", desc := "(I)I" } : Jvm.MethodName)) ∈ XT := XT4 49 rfl rfl
theorem tw839 : (Jvm.Cond.instanceMethod ({ cls := "OpensAtNine", name := "refusedRows", desc := "(I)I" } : Jvm.MethodName)) ∈ XT := XT4 51 rfl rfl
theorem tw840 : (Jvm.Cond.code ({ cls := "OpensAtNine", name := "refusedRows", desc := "(I)I" } : Jvm.MethodName) prog_1_method_31_code (2 : Nat) (Option.some Jvm.ClassFile.FieldType.int)) ∈ XT := XT4 52 rfl rfl
theorem tw841 : (Jvm.Cond.methodLink "OpensAtNine" (254 : Nat) ({ cls := "OpensAtNine", name := "isSheet", desc := "(I)Z" } : Jvm.MethodName)) ∈ XT := XT4 53 rfl rfl
theorem tw842 : (Jvm.Cond.static ({ cls := "OpensAtNine", name := "isSheet", desc := "(I)Z" } : Jvm.MethodName)) ∈ XT := XT4 54 rfl rfl
theorem tw843 : (Jvm.Cond.code ({ cls := "OpensAtNine", name := "isSheet", desc := "(I)Z" } : Jvm.MethodName) prog_1_method_48_code (1 : Nat) (Option.some Jvm.ClassFile.FieldType.boolean)) ∈ XT := XT4 55 rfl rfl
theorem tw844 : (Jvm.Cond.methodLink "OpensAtNine" (234 : Nat) ({ cls := "OpensAtNine$Sheet", name := "numbersBy", desc := "(I)I" } : Jvm.MethodName)) ∈ XT := XT4 56 rfl rfl
theorem tw845 : (Jvm.Cond.instanceMethod ({ cls := "OpensAtNine$Sheet", name := "numbersBy", desc := "(I)I" } : Jvm.MethodName)) ∈ XT := XT4 57 rfl rfl
theorem tw846 : (Jvm.Cond.selects "OpensAtNine$Sheet" ({ cls := "OpensAtNine$Sheet", name := "numbersBy", desc := "(I)I" } : Jvm.MethodName) ({ cls := "OpensAtNine$Sheet", name := "numbersBy", desc := "(I)I" } : Jvm.MethodName)) ∈ XT := XT4 58 rfl rfl
theorem tw847 : (Jvm.Cond.code ({ cls := "OpensAtNine$Sheet", name := "numbersBy", desc := "(I)I" } : Jvm.MethodName) prog_6_method_7_code (4 : Nat) (Option.some Jvm.ClassFile.FieldType.int)) ∈ XT := XT4 59 rfl rfl
theorem tw848 : (Jvm.Cond.methodLink "OpensAtNine$Sheet" (37 : Nat) ({ cls := "OpensAtNine$Sheet", name := "isSoBy", desc := "(II)Z" } : Jvm.MethodName)) ∈ XT := XT4 60 rfl rfl
theorem tw850 : (Jvm.Cond.instanceMethod ({ cls := "OpensAtNine$Sheet", name := "isSoBy", desc := "(II)Z" } : Jvm.MethodName)) ∈ XT := XT4 62 rfl rfl
theorem tw851 : (Jvm.Cond.code ({ cls := "OpensAtNine$Sheet", name := "isSoBy", desc := "(II)Z" } : Jvm.MethodName) prog_6_method_8_code (6 : Nat) (Option.some Jvm.ClassFile.FieldType.boolean)) ∈ XT := XT4 63 rfl rfl
theorem tw852 : (Jvm.Cond.methodLink "OpensAtNine$Sheet" (41 : Nat) ({ cls := "java/lang/Math", name := "floorMod", desc := "(II)I" } : Jvm.MethodName)) ∈ XT := XT4 64 rfl rfl
theorem tw853 : (Jvm.Cond.static ({ cls := "java/lang/Math", name := "floorMod", desc := "(II)I" } : Jvm.MethodName)) ∈ XT := XT4 65 rfl rfl
theorem tw854 : (Jvm.Cond.code ({ cls := "java/lang/Math", name := "floorMod", desc := "(II)I" } : Jvm.MethodName) prog_14_method_50_code (3 : Nat) (Option.some Jvm.ClassFile.FieldType.int)) ∈ XT := XT4 66 rfl rfl
theorem tw855 : (Jvm.Cond.methodLink "OpensAtNineLaw" (107 : Nat) ({ cls := "OpensAtNine", name := "next", desc := "(III)I" } : Jvm.MethodName)) ∈ XT := XT4 67 rfl rfl
theorem tw856 : (Jvm.Cond.instanceMethod ({ cls := "OpensAtNine", name := "next", desc := "(III)I" } : Jvm.MethodName)) ∈ XT := XT4 68 rfl rfl
theorem tw857 : (Jvm.Cond.selects "OpensAtNine" ({ cls := "OpensAtNine", name := "next", desc := "(III)I" } : Jvm.MethodName) ({ cls := "OpensAtNine", name := "next", desc := "(III)I" } : Jvm.MethodName)) ∈ XT := XT4 69 rfl rfl
theorem tw858 : (Jvm.Cond.code ({ cls := "OpensAtNine", name := "next", desc := "(III)I" } : Jvm.MethodName) prog_1_method_28_code (11 : Nat) (Option.some Jvm.ClassFile.FieldType.int)) ∈ XT := XT4 70 rfl rfl
theorem tw859 : (Jvm.Cond.methodLink "OpensAtNine" (237 : Nat) ({ cls := "OpensAtNine$Sheet", name := "sumBehind", desc := "(I)I" } : Jvm.MethodName)) ∈ XT := XT4 71 rfl rfl
theorem tw860 : (Jvm.Cond.instanceMethod ({ cls := "OpensAtNine$Sheet", name := "sumBehind", desc := "(I)I" } : Jvm.MethodName)) ∈ XT := XT4 72 rfl rfl
theorem tw861 : (Jvm.Cond.selects "OpensAtNine$Sheet" ({ cls := "OpensAtNine$Sheet", name := "sumBehind", desc := "(I)I" } : Jvm.MethodName) ({ cls := "OpensAtNine$Sheet", name := "sumBehind", desc := "(I)I" } : Jvm.MethodName)) ∈ XT := XT4 73 rfl rfl
theorem tw862 : (Jvm.Cond.code ({ cls := "OpensAtNine$Sheet", name := "sumBehind", desc := "(I)I" } : Jvm.MethodName) prog_6_method_6_code (4 : Nat) (Option.some Jvm.ClassFile.FieldType.int)) ∈ XT := XT4 74 rfl rfl
theorem tw863 : (Jvm.Cond.methodLink "OpensAtNine" (240 : Nat) ({ cls := "OpensAtNine", name := "leftAtWorst", desc := "(II)I" } : Jvm.MethodName)) ∈ XT := XT4 75 rfl rfl
theorem tw864 : (Jvm.Cond.static ({ cls := "OpensAtNine", name := "leftAtWorst", desc := "(II)I" } : Jvm.MethodName)) ∈ XT := XT4 76 rfl rfl
theorem tw865 : (Jvm.Cond.code ({ cls := "OpensAtNine", name := "leftAtWorst", desc := "(II)I" } : Jvm.MethodName) prog_1_method_29_code (5 : Nat) (Option.some Jvm.ClassFile.FieldType.int)) ∈ XT := XT4 77 rfl rfl
theorem tw866 : (Jvm.Cond.methodLink "OpensAtNine" (243 : Nat) ({ cls := "java/lang/Math", name := "floorMod", desc := "(II)I" } : Jvm.MethodName)) ∈ XT := XT4 78 rfl rfl
theorem tw867 : (Jvm.Cond.methodLink "OpensAtNine" (248 : Nat) ({ cls := "java/lang/Math", name := "max", desc := "(II)I" } : Jvm.MethodName)) ∈ XT := XT4 79 rfl rfl
theorem tw868 : (Jvm.Cond.methodLink "OpensAtNineLaw" (112 : Nat) ({ cls := "OpensAtNine", name := "judge", desc := "(I)I" } : Jvm.MethodName)) ∈ XT := XT4 80 rfl rfl
theorem tw869 : (Jvm.Cond.instanceMethod ({ cls := "OpensAtNine", name := "judge", desc := "(I)I" } : Jvm.MethodName)) ∈ XT := XT4 81 rfl rfl
theorem tw870 : (Jvm.Cond.selects "OpensAtNine" ({ cls := "OpensAtNine", name := "judge", desc := "(I)I" } : Jvm.MethodName) ({ cls := "OpensAtNine", name := "judge", desc := "(I)I" } : Jvm.MethodName)) ∈ XT := XT4 82 rfl rfl
theorem tw871 : (Jvm.Cond.code ({ cls := "OpensAtNine", name := "judge", desc := "(I)I" } : Jvm.MethodName) prog_1_method_32_code (3 : Nat) (Option.some Jvm.ClassFile.FieldType.int)) ∈ XT := XT4 83 rfl rfl
theorem tw872 : (Jvm.Cond.methodLink "OpensAtNine" (261 : Nat) ({ cls := "OpensAtNine", name := "firstWrong", desc := "(LOpensAtNine$Sheet;II)I" } : Jvm.MethodName)) ∈ XT := XT4 84 rfl rfl
theorem tw874 : (Jvm.Cond.instanceMethod ({ cls := "OpensAtNine", name := "firstWrong", desc := "(LOpensAtNine$Sheet;II)I" } : Jvm.MethodName)) ∈ XT := XT4 86 rfl rfl
theorem tw875 : (Jvm.Cond.code ({ cls := "OpensAtNine", name := "firstWrong", desc := "(LOpensAtNine$Sheet;II)I" } : Jvm.MethodName) prog_1_method_35_code (7 : Nat) (Option.some Jvm.ClassFile.FieldType.int)) ∈ XT := XT4 87 rfl rfl
theorem tw876 : (Jvm.Cond.methodLink "OpensAtNine" (265 : Nat) ({ cls := "OpensAtNine$Sheet", name := "at", desc := "(I)I" } : Jvm.MethodName)) ∈ XT := XT4 88 rfl rfl
theorem tw877 : (Jvm.Cond.instanceMethod ({ cls := "OpensAtNine$Sheet", name := "at", desc := "(I)I" } : Jvm.MethodName)) ∈ XT := XT4 89 rfl rfl
theorem tw878 : (Jvm.Cond.selects "OpensAtNine$Sheet" ({ cls := "OpensAtNine$Sheet", name := "at", desc := "(I)I" } : Jvm.MethodName) ({ cls := "OpensAtNine$Sheet", name := "at", desc := "(I)I" } : Jvm.MethodName)) ∈ XT := XT4 90 rfl rfl
theorem tw879 : (Jvm.Cond.code ({ cls := "OpensAtNine$Sheet", name := "at", desc := "(I)I" } : Jvm.MethodName) prog_6_method_3_code (2 : Nat) (Option.some Jvm.ClassFile.FieldType.int)) ∈ XT := XT4 91 rfl rfl
theorem tw880 : (Jvm.Cond.methodLink "OpensAtNineLaw" (116 : Nat) ({ cls := "OpensAtNine", name := "laws", desc := "(I)I" } : Jvm.MethodName)) ∈ XT := XT4 92 rfl rfl
theorem tw881 : (Jvm.Cond.instanceMethod ({ cls := "OpensAtNine", name := "laws", desc := "(I)I" } : Jvm.MethodName)) ∈ XT := XT4 93 rfl rfl
theorem tw882 : (Jvm.Cond.selects "OpensAtNine" ({ cls := "OpensAtNine", name := "laws", desc := "(I)I" } : Jvm.MethodName) ({ cls := "OpensAtNine", name := "laws", desc := "(I)I" } : Jvm.MethodName)) ∈ XT := XT4 94 rfl rfl
theorem tw883 : (Jvm.Cond.code ({ cls := "OpensAtNine", name := "laws", desc := "(I)I" } : Jvm.MethodName) prog_1_method_33_code (5 : Nat) (Option.some Jvm.ClassFile.FieldType.int)) ∈ XT := XT4 95 rfl rfl
theorem tw884 : (Jvm.Cond.methodLink "OpensAtNineLaw" (120 : Nat) ({ cls := "OpensAtNine", name := "numbers", desc := "(I)I" } : Jvm.MethodName)) ∈ XT := XT4 96 rfl rfl
theorem tw885 : (Jvm.Cond.instanceMethod ({ cls := "OpensAtNine", name := "numbers", desc := "(I)I" } : Jvm.MethodName)) ∈ XT := XT4 97 rfl rfl
theorem tw886 : (Jvm.Cond.selects "OpensAtNine" ({ cls := "OpensAtNine", name := "numbers", desc := "(I)I" } : Jvm.MethodName) ({ cls := "OpensAtNine", name := "numbers", desc := "(I)I" } : Jvm.MethodName)) ∈ XT := XT4 98 rfl rfl
theorem tw887 : (Jvm.Cond.code ({ cls := "OpensAtNine", name := "numbers", desc := "(I)I" } : Jvm.MethodName) prog_1_method_34_code (5 : Nat) (Option.some Jvm.ClassFile.FieldType.int)) ∈ XT := XT4 99 rfl rfl
theorem tw888 : (Jvm.Cond.methodLink "OpensAtNineLaw" (124 : Nat) ({ cls := "OpensAtNine", name := "film", desc := "(I)I" } : Jvm.MethodName)) ∈ XT := XT4 100 rfl rfl
theorem tw889 : (Jvm.Cond.instanceMethod ({ cls := "OpensAtNine", name := "film", desc := "(I)I" } : Jvm.MethodName)) ∈ XT := XT4 101 rfl rfl
theorem tw890 : (Jvm.Cond.selects "OpensAtNine" ({ cls := "OpensAtNine", name := "film", desc := "(I)I" } : Jvm.MethodName) ({ cls := "OpensAtNine", name := "film", desc := "(I)I" } : Jvm.MethodName)) ∈ XT := XT4 102 rfl rfl
theorem tw891 : (Jvm.Cond.code ({ cls := "OpensAtNine", name := "film", desc := "(I)I" } : Jvm.MethodName) prog_1_method_36_code (5 : Nat) (Option.some Jvm.ClassFile.FieldType.int)) ∈ XT := XT4 103 rfl rfl
theorem tw892 : (Jvm.Cond.methodLink "OpensAtNine" (268 : Nat) ({ cls := "OpensAtNine$Sheet", name := "become", desc := "(II)V" } : Jvm.MethodName)) ∈ XT := XT4 104 rfl rfl
theorem tw893 : (Jvm.Cond.instanceMethod ({ cls := "OpensAtNine$Sheet", name := "become", desc := "(II)V" } : Jvm.MethodName)) ∈ XT := XT4 105 rfl rfl
theorem tw894 : (Jvm.Cond.selects "OpensAtNine$Sheet" ({ cls := "OpensAtNine$Sheet", name := "become", desc := "(II)V" } : Jvm.MethodName) ({ cls := "OpensAtNine$Sheet", name := "become", desc := "(II)V" } : Jvm.MethodName)) ∈ XT := XT4 106 rfl rfl
theorem tw895 : (Jvm.Cond.code ({ cls := "OpensAtNine$Sheet", name := "become", desc := "(II)V" } : Jvm.MethodName) prog_6_method_2_code (3 : Nat) (Option.none : Option Jvm.ClassFile.FieldType)) ∈ XT := XT4 107 rfl rfl
theorem tw896 : (Jvm.Cond.methodLink "OpensAtNine$Sheet" (19 : Nat) ({ cls := "java/lang/Math", name := "min", desc := "(II)I" } : Jvm.MethodName)) ∈ XT := XT4 108 rfl rfl
theorem tw897 : (Jvm.Cond.methodLink "OpensAtNine$Sheet" (25 : Nat) ({ cls := "java/lang/Math", name := "max", desc := "(II)I" } : Jvm.MethodName)) ∈ XT := XT4 109 rfl rfl
theorem tw898 : (Jvm.Cond.methodLink "OpensAtNine$Sheet" (31 : Nat) ({ cls := "java/util/Arrays", name := "fill", desc := "([II)V" } : Jvm.MethodName)) ∈ XT := XT4 110 rfl rfl
theorem tw899 : (Jvm.Cond.methodLink "OpensAtNine" (270 : Nat) ({ cls := "OpensAtNine$Sheet", name := "write", desc := "(II)V" } : Jvm.MethodName)) ∈ XT := XT4 111 rfl rfl
theorem tw900 : (Jvm.Cond.instanceMethod ({ cls := "OpensAtNine$Sheet", name := "write", desc := "(II)V" } : Jvm.MethodName)) ∈ XT := XT4 112 rfl rfl
theorem tw901 : (Jvm.Cond.selects "OpensAtNine$Sheet" ({ cls := "OpensAtNine$Sheet", name := "write", desc := "(II)V" } : Jvm.MethodName) ({ cls := "OpensAtNine$Sheet", name := "write", desc := "(II)V" } : Jvm.MethodName)) ∈ XT := XT4 113 rfl rfl
theorem tw902 : (Jvm.Cond.code ({ cls := "OpensAtNine$Sheet", name := "write", desc := "(II)V" } : Jvm.MethodName) prog_6_method_4_code (3 : Nat) (Option.none : Option Jvm.ClassFile.FieldType)) ∈ XT := XT4 114 rfl rfl
theorem tw903 : (Jvm.Cond.methodLink "OpensAtNineLaw" (128 : Nat) ({ cls := "OpensAtNine", name := "drawn", desc := "(I)I" } : Jvm.MethodName)) ∈ XT := XT4 115 rfl rfl
theorem tw904 : (Jvm.Cond.instanceMethod ({ cls := "OpensAtNine", name := "drawn", desc := "(I)I" } : Jvm.MethodName)) ∈ XT := XT4 116 rfl rfl
theorem tw905 : (Jvm.Cond.selects "OpensAtNine" ({ cls := "OpensAtNine", name := "drawn", desc := "(I)I" } : Jvm.MethodName) ({ cls := "OpensAtNine", name := "drawn", desc := "(I)I" } : Jvm.MethodName)) ∈ XT := XT4 117 rfl rfl
theorem tw906 : (Jvm.Cond.code ({ cls := "OpensAtNine", name := "drawn", desc := "(I)I" } : Jvm.MethodName) prog_1_method_37_code (2 : Nat) (Option.some Jvm.ClassFile.FieldType.int)) ∈ XT := XT4 118 rfl rfl
theorem tw907 : (Jvm.Cond.constant "OpensAtNine" (272 : Nat) (99999 : Int32)) ∈ XT := XT4 119 rfl rfl
theorem tw908 : (Jvm.Cond.methodLink "OpensAtNine" (273 : Nat) ({ cls := "OpensAtNine", name := "insideBy", desc := "(I)I" } : Jvm.MethodName)) ∈ XT := XT4 120 rfl rfl
theorem tw910 : (Jvm.Cond.instanceMethod ({ cls := "OpensAtNine", name := "insideBy", desc := "(I)I" } : Jvm.MethodName)) ∈ XT := XT4 122 rfl rfl
theorem tw911 : (Jvm.Cond.code ({ cls := "OpensAtNine", name := "insideBy", desc := "(I)I" } : Jvm.MethodName) prog_1_method_40_code (6 : Nat) (Option.some Jvm.ClassFile.FieldType.int)) ∈ XT := XT4 123 rfl rfl
theorem tw912 : (Jvm.Cond.constantLong "OpensAtNine" (281 : Nat) (48271 : Int64)) ∈ XT := XT4 124 rfl rfl
theorem tw913 : (Jvm.Cond.constantLong "OpensAtNine" (283 : Nat) (2147483647 : Int64)) ∈ XT := XT4 125 rfl rfl
theorem tw914 : (Jvm.Cond.methodLink "OpensAtNineLaw" (132 : Nat) ({ cls := "OpensAtNine", name := "mean", desc := "(III)J" } : Jvm.MethodName)) ∈ XT := XT4 126 rfl rfl
theorem tw915 : (Jvm.Cond.instanceMethod ({ cls := "OpensAtNine", name := "mean", desc := "(III)J" } : Jvm.MethodName)) ∈ XT := XT4 127 rfl rfl
theorem tw916 : (Jvm.Cond.selects "OpensAtNine" ({ cls := "OpensAtNine", name := "mean", desc := "(III)J" } : Jvm.MethodName) ({ cls := "OpensAtNine", name := "mean", desc := "(III)J" } : Jvm.MethodName)) ∈ XT := XT4 128 rfl rfl
theorem tw917 : (Jvm.Cond.code ({ cls := "OpensAtNine", name := "mean", desc := "(III)J" } : Jvm.MethodName) prog_1_method_38_code (6 : Nat) (Option.some Jvm.ClassFile.FieldType.long)) ∈ XT := XT4 129 rfl rfl
theorem tw918 : (Jvm.Cond.constantLong "OpensAtNine" (276 : Nat) (-4611686018427387904 : Int64)) ∈ XT := XT4 130 rfl rfl
theorem tw919 : (Jvm.Cond.methodLink "OpensAtNine" (278 : Nat) ({ cls := "OpensAtNine", name := "commonDivisor", desc := "(II)I" } : Jvm.MethodName)) ∈ XT := XT4 131 rfl rfl
theorem tw920 : (Jvm.Cond.static ({ cls := "OpensAtNine", name := "commonDivisor", desc := "(II)I" } : Jvm.MethodName)) ∈ XT := XT4 132 rfl rfl
theorem tw921 : (Jvm.Cond.code ({ cls := "OpensAtNine", name := "commonDivisor", desc := "(II)I" } : Jvm.MethodName) prog_1_method_39_code (3 : Nat) (Option.some Jvm.ClassFile.FieldType.int)) ∈ XT := XT4 133 rfl rfl
theorem tw922 : (Jvm.Cond.methodLink "OpensAtNineLaw" (137 : Nat) ({ cls := "OpensAtNine", name := "image", desc := "()I" } : Jvm.MethodName)) ∈ XT := XT4 134 rfl rfl
theorem tw923 : (Jvm.Cond.instanceMethod ({ cls := "OpensAtNine", name := "image", desc := "()I" } : Jvm.MethodName)) ∈ XT := XT4 135 rfl rfl
theorem tw924 : (Jvm.Cond.selects "OpensAtNine" ({ cls := "OpensAtNine", name := "image", desc := "()I" } : Jvm.MethodName) ({ cls := "OpensAtNine", name := "image", desc := "()I" } : Jvm.MethodName)) ∈ XT := XT4 136 rfl rfl
theorem tw925 : (Jvm.Cond.code ({ cls := "OpensAtNine", name := "image", desc := "()I" } : Jvm.MethodName) prog_1_method_41_code (1 : Nat) (Option.some Jvm.ClassFile.FieldType.int)) ∈ XT := XT4 137 rfl rfl
theorem tw926 : (Jvm.Cond.methodLink "OpensAtNineLaw" (141 : Nat) ({ cls := "OpensAtNine", name := "back", desc := "()I" } : Jvm.MethodName)) ∈ XT := XT4 138 rfl rfl
theorem tw927 : (Jvm.Cond.instanceMethod ({ cls := "OpensAtNine", name := "back", desc := "()I" } : Jvm.MethodName)) ∈ XT := XT4 139 rfl rfl
theorem tw928 : (Jvm.Cond.selects "OpensAtNine" ({ cls := "OpensAtNine", name := "back", desc := "()I" } : Jvm.MethodName) ({ cls := "OpensAtNine", name := "back", desc := "()I" } : Jvm.MethodName)) ∈ XT := XT4 140 rfl rfl
theorem tw929 : (Jvm.Cond.code ({ cls := "OpensAtNine", name := "back", desc := "()I" } : Jvm.MethodName) prog_1_method_42_code (1 : Nat) (Option.some Jvm.ClassFile.FieldType.int)) ∈ XT := XT4 141 rfl rfl
theorem tw930 : (Jvm.Cond.methodLink "OpensAtNineLaw" (145 : Nat) ({ cls := "OpensAtNine", name := "sheet", desc := "(III)I" } : Jvm.MethodName)) ∈ XT := XT4 142 rfl rfl
theorem tw931 : (Jvm.Cond.instanceMethod ({ cls := "OpensAtNine", name := "sheet", desc := "(III)I" } : Jvm.MethodName)) ∈ XT := XT4 143 rfl rfl
theorem tw932 : (Jvm.Cond.selects "OpensAtNine" ({ cls := "OpensAtNine", name := "sheet", desc := "(III)I" } : Jvm.MethodName) ({ cls := "OpensAtNine", name := "sheet", desc := "(III)I" } : Jvm.MethodName)) ∈ XT := XT4 144 rfl rfl
theorem tw933 : (Jvm.Cond.code ({ cls := "OpensAtNine", name := "sheet", desc := "(III)I" } : Jvm.MethodName) prog_1_method_43_code (4 : Nat) (Option.some Jvm.ClassFile.FieldType.int)) ∈ XT := XT4 145 rfl rfl
theorem tw934 : (Jvm.Cond.methodLink "OpensAtNineLaw" (149 : Nat) ({ cls := "OpensAtNine", name := "cell", desc := "(III)I" } : Jvm.MethodName)) ∈ XT := XT4 146 rfl rfl
theorem tw935 : (Jvm.Cond.instanceMethod ({ cls := "OpensAtNine", name := "cell", desc := "(III)I" } : Jvm.MethodName)) ∈ XT := XT4 147 rfl rfl
theorem tw936 : (Jvm.Cond.selects "OpensAtNine" ({ cls := "OpensAtNine", name := "cell", desc := "(III)I" } : Jvm.MethodName) ({ cls := "OpensAtNine", name := "cell", desc := "(III)I" } : Jvm.MethodName)) ∈ XT := XT4 148 rfl rfl
theorem tw937 : (Jvm.Cond.code ({ cls := "OpensAtNine", name := "cell", desc := "(III)I" } : Jvm.MethodName) prog_1_method_44_code (4 : Nat) (Option.some Jvm.ClassFile.FieldType.int)) ∈ XT := XT4 149 rfl rfl
theorem tw938 : (Jvm.Cond.methodLink "OpensAtNineLaw" (153 : Nat) ({ cls := "OpensAtNine", name := "copy", desc := "(IIIII)I" } : Jvm.MethodName)) ∈ XT := XT4 150 rfl rfl
theorem tw939 : (Jvm.Cond.instanceMethod ({ cls := "OpensAtNine", name := "copy", desc := "(IIIII)I" } : Jvm.MethodName)) ∈ XT := XT4 151 rfl rfl
theorem tw940 : (Jvm.Cond.selects "OpensAtNine" ({ cls := "OpensAtNine", name := "copy", desc := "(IIIII)I" } : Jvm.MethodName) ({ cls := "OpensAtNine", name := "copy", desc := "(IIIII)I" } : Jvm.MethodName)) ∈ XT := XT4 152 rfl rfl
theorem tw941 : (Jvm.Cond.code ({ cls := "OpensAtNine", name := "copy", desc := "(IIIII)I" } : Jvm.MethodName) prog_1_method_45_code (8 : Nat) (Option.some Jvm.ClassFile.FieldType.int)) ∈ XT := XT4 153 rfl rfl
theorem tw942 : (Jvm.Cond.methodLink "OpensAtNine" (289 : Nat) ({ cls := "OpensAtNine$Sheet", name := "hasRow", desc := "(II)Z" } : Jvm.MethodName)) ∈ XT := XT4 154 rfl rfl
theorem tw943 : (Jvm.Cond.instanceMethod ({ cls := "OpensAtNine$Sheet", name := "hasRow", desc := "(II)Z" } : Jvm.MethodName)) ∈ XT := XT4 155 rfl rfl
theorem tw944 : (Jvm.Cond.selects "OpensAtNine$Sheet" ({ cls := "OpensAtNine$Sheet", name := "hasRow", desc := "(II)Z" } : Jvm.MethodName) ({ cls := "OpensAtNine$Sheet", name := "hasRow", desc := "(II)Z" } : Jvm.MethodName)) ∈ XT := XT4 156 rfl rfl
theorem tw945 : (Jvm.Cond.code ({ cls := "OpensAtNine$Sheet", name := "hasRow", desc := "(II)Z" } : Jvm.MethodName) prog_6_method_5_code (3 : Nat) (Option.some Jvm.ClassFile.FieldType.boolean)) ∈ XT := XT4 157 rfl rfl
theorem tw946 : (Jvm.Cond.methodLink "OpensAtNine" (295 : Nat) ({ cls := "java/lang/System", name := "arraycopy", desc := "(Ljava/lang/Object;ILjava/lang/Object;II)V" } : Jvm.MethodName)) ∈ XT := XT4 158 rfl rfl
theorem tw947 : (Jvm.Cond.methodLink "OpensAtNineLaw" (157 : Nat) ({ cls := "OpensAtNine", name := "coinsBy", desc := "(IIII)I" } : Jvm.MethodName)) ∈ XT := XT4 159 rfl rfl
theorem tw948 : (Jvm.Cond.instanceMethod ({ cls := "OpensAtNine", name := "coinsBy", desc := "(IIII)I" } : Jvm.MethodName)) ∈ XT := XT4 160 rfl rfl
theorem tw949 : (Jvm.Cond.selects "OpensAtNine" ({ cls := "OpensAtNine", name := "coinsBy", desc := "(IIII)I" } : Jvm.MethodName) ({ cls := "OpensAtNine", name := "coinsBy", desc := "(IIII)I" } : Jvm.MethodName)) ∈ XT := XT4 161 rfl rfl
theorem tw950 : (Jvm.Cond.code ({ cls := "OpensAtNine", name := "coinsBy", desc := "(IIII)I" } : Jvm.MethodName) prog_1_method_46_code (9 : Nat) (Option.some Jvm.ClassFile.FieldType.int)) ∈ XT := XT4 162 rfl rfl
theorem tw951 : (Jvm.Cond.methodLink "OpensAtNine" (301 : Nat) ({ cls := "OpensAtNine", name := "coin", desc := "(IIII)I" } : Jvm.MethodName)) ∈ XT := XT4 163 rfl rfl
theorem tw952 : (Jvm.Cond.methodLink "OpensAtNineLaw" (161 : Nat) ({ cls := "OpensAtNine", name := "taken", desc := "(II)I" } : Jvm.MethodName)) ∈ XT := XT4 164 rfl rfl
theorem tw953 : (Jvm.Cond.instanceMethod ({ cls := "OpensAtNine", name := "taken", desc := "(II)I" } : Jvm.MethodName)) ∈ XT := XT4 165 rfl rfl
theorem tw954 : (Jvm.Cond.selects "OpensAtNine" ({ cls := "OpensAtNine", name := "taken", desc := "(II)I" } : Jvm.MethodName) ({ cls := "OpensAtNine", name := "taken", desc := "(II)I" } : Jvm.MethodName)) ∈ XT := XT4 166 rfl rfl
theorem tw955 : (Jvm.Cond.code ({ cls := "OpensAtNine", name := "taken", desc := "(II)I" } : Jvm.MethodName) prog_1_method_47_code (5 : Nat) (Option.some Jvm.ClassFile.FieldType.int)) ∈ XT := XT4 167 rfl rfl
theorem tw956 : (Jvm.Cond.methodLink "OpensAtNine" (305 : Nat) ({ cls := "OpensAtNine$Coin", name := "isA", desc := "(I)Z" } : Jvm.MethodName)) ∈ XT := XT4 168 rfl rfl
theorem tw957 : (Jvm.Cond.instanceMethod ({ cls := "OpensAtNine$Coin", name := "isA", desc := "(I)Z" } : Jvm.MethodName)) ∈ XT := XT4 169 rfl rfl
theorem tw958 : (Jvm.Cond.selects "OpensAtNine$Coin" ({ cls := "OpensAtNine$Coin", name := "isA", desc := "(I)Z" } : Jvm.MethodName) ({ cls := "OpensAtNine$Coin", name := "isA", desc := "(I)Z" } : Jvm.MethodName)) ∈ XT := XT4 170 rfl rfl
theorem tw959 : (Jvm.Cond.code ({ cls := "OpensAtNine$Coin", name := "isA", desc := "(I)Z" } : Jvm.MethodName) prog_2_method_5_code (2 : Nat) (Option.some Jvm.ClassFile.FieldType.boolean)) ∈ XT := XT4 171 rfl rfl
theorem tw960 : (Jvm.Cond.classLink "OpensAtNineLaw" (10 : Nat) "OpensAtNineModel") ∈ XT := XT4 172 rfl rfl
theorem tw961 : (Jvm.Cond.instantiable "OpensAtNineModel" (49 : Nat)) ∈ XT := XT4 173 rfl rfl
theorem tw962 : (Jvm.Cond.methodLink "OpensAtNineLaw" (12 : Nat) ({ cls := "OpensAtNineModel", name := "<init>", desc := "()V" } : Jvm.MethodName)) ∈ XT := XT4 174 rfl rfl
theorem tw963 : (Jvm.Cond.instanceMethod ({ cls := "OpensAtNineModel", name := "<init>", desc := "()V" } : Jvm.MethodName)) ∈ XT := XT4 175 rfl rfl
theorem tw964 : (Jvm.Cond.code ({ cls := "OpensAtNineModel", name := "<init>", desc := "()V" } : Jvm.MethodName) prog_11_method_1_code (2 : Nat) (Option.none : Option Jvm.ClassFile.FieldType)) ∈ XT := XT4 176 rfl rfl
theorem tw965 : (Jvm.Cond.methodLink "OpensAtNineModel" (1 : Nat) ({ cls := "java/lang/Object", name := "<init>", desc := "()V" } : Jvm.MethodName)) ∈ XT := XT4 177 rfl rfl
theorem tw966 : (Jvm.Cond.methodLink "OpensAtNineModel" (93 : Nat) ({ cls := "OpensAtNineModel", name := "text", desc := "()I" } : Jvm.MethodName)) ∈ XT := XT4 178 rfl rfl
theorem tw967 : (Jvm.Cond.instanceMethod ({ cls := "OpensAtNineModel", name := "text", desc := "()I" } : Jvm.MethodName)) ∈ XT := XT4 179 rfl rfl
theorem tw968 : (Jvm.Cond.selects "OpensAtNineModel" ({ cls := "OpensAtNineModel", name := "text", desc := "()I" } : Jvm.MethodName) ({ cls := "OpensAtNineModel", name := "text", desc := "()I" } : Jvm.MethodName)) ∈ XT := XT4 180 rfl rfl
theorem tw969 : (Jvm.Cond.code ({ cls := "OpensAtNineModel", name := "text", desc := "()I" } : Jvm.MethodName) prog_11_method_26_code (3 : Nat) (Option.some Jvm.ClassFile.FieldType.int)) ∈ XT := XT4 181 rfl rfl
theorem tw970 : (Jvm.Cond.methodLink "OpensAtNineModel" (171 : Nat) ({ cls := "OpensAtNineModel", name := "next", desc := "()V" } : Jvm.MethodName)) ∈ XT := XT4 182 rfl rfl
theorem tw972 : (Jvm.Cond.instanceMethod ({ cls := "OpensAtNineModel", name := "next", desc := "()V" } : Jvm.MethodName)) ∈ XT := XT4 184 rfl rfl
theorem tw973 : (Jvm.Cond.code ({ cls := "OpensAtNineModel", name := "next", desc := "()V" } : Jvm.MethodName) prog_11_method_17_code (3 : Nat) (Option.none : Option Jvm.ClassFile.FieldType)) ∈ XT := XT4 185 rfl rfl
theorem tw974 : (Jvm.Cond.methodLink "OpensAtNineModel" (100 : Nat) ({ cls := "OpensAtNineModel", name := "in", desc := "(III)Z" } : Jvm.MethodName)) ∈ XT := XT4 186 rfl rfl
theorem tw975 : (Jvm.Cond.static ({ cls := "OpensAtNineModel", name := "in", desc := "(III)Z" } : Jvm.MethodName)) ∈ XT := XT4 187 rfl rfl
theorem tw976 : (Jvm.Cond.code ({ cls := "OpensAtNineModel", name := "in", desc := "(III)Z" } : Jvm.MethodName) prog_11_method_3_code (3 : Nat) (Option.some Jvm.ClassFile.FieldType.boolean)) ∈ XT := XT4 188 rfl rfl
theorem tw977 : (Jvm.Cond.methodLink "OpensAtNineModel" (144 : Nat) ({ cls := "OpensAtNineModel", name := "wordFrom", desc := "(II)I" } : Jvm.MethodName)) ∈ XT := XT4 189 rfl rfl
theorem tw979 : (Jvm.Cond.instanceMethod ({ cls := "OpensAtNineModel", name := "wordFrom", desc := "(II)I" } : Jvm.MethodName)) ∈ XT := XT4 191 rfl rfl
theorem tw980 : (Jvm.Cond.code ({ cls := "OpensAtNineModel", name := "wordFrom", desc := "(II)I" } : Jvm.MethodName) prog_11_method_16_code (6 : Nat) (Option.some Jvm.ClassFile.FieldType.int)) ∈ XT := XT4 192 rfl rfl
theorem tw981 : (Jvm.Cond.methodLink "OpensAtNineModel" (184 : Nat) ({ cls := "OpensAtNineModel", name := "eRead", desc := "()Z" } : Jvm.MethodName)) ∈ XT := XT4 193 rfl rfl
theorem tw983 : (Jvm.Cond.instanceMethod ({ cls := "OpensAtNineModel", name := "eRead", desc := "()Z" } : Jvm.MethodName)) ∈ XT := XT4 195 rfl rfl
theorem tw984 : (Jvm.Cond.code ({ cls := "OpensAtNineModel", name := "eRead", desc := "()Z" } : Jvm.MethodName) prog_11_method_25_code (4 : Nat) (Option.some Jvm.ClassFile.FieldType.boolean)) ∈ XT := XT4 196 rfl rfl
theorem tw985 : (Jvm.Cond.constant "OpensAtNineModel" (174 : Nat) (100000 : Int32)) ∈ XT := XT4 197 rfl rfl
theorem tw986 : (Jvm.Cond.methodLink "OpensAtNineModel" (161 : Nat) ({ cls := "OpensAtNineModel", name := "puts", desc := "(I)V" } : Jvm.MethodName)) ∈ XT := XT4 198 rfl rfl
theorem tw988 : (Jvm.Cond.instanceMethod ({ cls := "OpensAtNineModel", name := "puts", desc := "(I)V" } : Jvm.MethodName)) ∈ XT := XT4 200 rfl rfl
theorem tw989 : (Jvm.Cond.code ({ cls := "OpensAtNineModel", name := "puts", desc := "(I)V" } : Jvm.MethodName) prog_11_method_19_code (2 : Nat) (Option.none : Option Jvm.ClassFile.FieldType)) ∈ XT := XT4 201 rfl rfl
theorem tw990 : (Jvm.Cond.methodLink "OpensAtNineModel" (168 : Nat) ({ cls := "OpensAtNineModel", name := "unwinds", desc := "(I)V" } : Jvm.MethodName)) ∈ XT := XT4 202 rfl rfl
theorem tw992 : (Jvm.Cond.instanceMethod ({ cls := "OpensAtNineModel", name := "unwinds", desc := "(I)V" } : Jvm.MethodName)) ∈ XT := XT4 204 rfl rfl
theorem tw993 : (Jvm.Cond.code ({ cls := "OpensAtNineModel", name := "unwinds", desc := "(I)V" } : Jvm.MethodName) prog_11_method_20_code (3 : Nat) (Option.none : Option Jvm.ClassFile.FieldType)) ∈ XT := XT4 205 rfl rfl
theorem tw994 : (Jvm.Cond.methodLink "OpensAtNineModel" (154 : Nat) ({ cls := "OpensAtNineModel", name := "rank", desc := "(I)I" } : Jvm.MethodName)) ∈ XT := XT4 206 rfl rfl
theorem tw995 : (Jvm.Cond.static ({ cls := "OpensAtNineModel", name := "rank", desc := "(I)I" } : Jvm.MethodName)) ∈ XT := XT4 207 rfl rfl
theorem tw996 : (Jvm.Cond.code ({ cls := "OpensAtNineModel", name := "rank", desc := "(I)I" } : Jvm.MethodName) prog_11_method_18_code (1 : Nat) (Option.some Jvm.ClassFile.FieldType.int)) ∈ XT := XT4 208 rfl rfl
theorem tw997 : (Jvm.Cond.methodLink "OpensAtNineModel" (175 : Nat) ({ cls := "OpensAtNineModel", name := "opensOne", desc := "(I)Z" } : Jvm.MethodName)) ∈ XT := XT4 209 rfl rfl
theorem tw999 : (Jvm.Cond.instanceMethod ({ cls := "OpensAtNineModel", name := "opensOne", desc := "(I)Z" } : Jvm.MethodName)) ∈ XT := XT4 211 rfl rfl
theorem tw1000 : (Jvm.Cond.code ({ cls := "OpensAtNineModel", name := "opensOne", desc := "(I)Z" } : Jvm.MethodName) prog_11_method_22_code (2 : Nat) (Option.some Jvm.ClassFile.FieldType.boolean)) ∈ XT := XT4 212 rfl rfl
theorem tw1001 : (Jvm.Cond.methodLink "OpensAtNineModel" (165 : Nat) ({ cls := "OpensAtNineModel", name := "holds", desc := "(I)V" } : Jvm.MethodName)) ∈ XT := XT4 213 rfl rfl
theorem tw1003 : (Jvm.Cond.instanceMethod ({ cls := "OpensAtNineModel", name := "holds", desc := "(I)V" } : Jvm.MethodName)) ∈ XT := XT4 215 rfl rfl
theorem tw1004 : (Jvm.Cond.code ({ cls := "OpensAtNineModel", name := "holds", desc := "(I)V" } : Jvm.MethodName) prog_11_method_21_code (2 : Nat) (Option.none : Option Jvm.ClassFile.FieldType)) ∈ XT := XT4 216 rfl rfl
theorem tw1005 : (Jvm.Cond.methodLink "OpensAtNineModel" (178 : Nat) ({ cls := "OpensAtNineModel", name := "signOf", desc := "()I" } : Jvm.MethodName)) ∈ XT := XT4 217 rfl rfl
theorem tw1007 : (Jvm.Cond.instanceMethod ({ cls := "OpensAtNineModel", name := "signOf", desc := "()I" } : Jvm.MethodName)) ∈ XT := XT4 219 rfl rfl
theorem tw1008 : (Jvm.Cond.code ({ cls := "OpensAtNineModel", name := "signOf", desc := "()I" } : Jvm.MethodName) prog_11_method_24_code (1 : Nat) (Option.some Jvm.ClassFile.FieldType.int)) ∈ XT := XT4 220 rfl rfl
theorem tw1009 : (Jvm.Cond.methodLink "OpensAtNineModel" (181 : Nat) ({ cls := "OpensAtNineModel", name := "between", desc := "(I)Z" } : Jvm.MethodName)) ∈ XT := XT4 221 rfl rfl
theorem tw1011 : (Jvm.Cond.instanceMethod ({ cls := "OpensAtNineModel", name := "between", desc := "(I)Z" } : Jvm.MethodName)) ∈ XT := XT4 223 rfl rfl
theorem tw1012 : (Jvm.Cond.code ({ cls := "OpensAtNineModel", name := "between", desc := "(I)Z" } : Jvm.MethodName) prog_11_method_23_code (2 : Nat) (Option.some Jvm.ClassFile.FieldType.boolean)) ∈ XT := XT4 224 rfl rfl
theorem tw1161 : (Jvm.Cond.arrayClass Jvm.ClassFile.FieldType.long) ∈ XT := XT5 133 rfl rfl
theorem tw1162 : (Jvm.Cond.methodLink "OpensAtNineLaw" (17 : Nat) ({ cls := "OpensAtNineModel", name := "set", desc := "(II)I" } : Jvm.MethodName)) ∈ XT := XT5 134 rfl rfl
theorem tw1163 : (Jvm.Cond.instanceMethod ({ cls := "OpensAtNineModel", name := "set", desc := "(II)I" } : Jvm.MethodName)) ∈ XT := XT5 135 rfl rfl
theorem tw1164 : (Jvm.Cond.selects "OpensAtNineModel" ({ cls := "OpensAtNineModel", name := "set", desc := "(II)I" } : Jvm.MethodName) ({ cls := "OpensAtNineModel", name := "set", desc := "(II)I" } : Jvm.MethodName)) ∈ XT := XT5 136 rfl rfl
theorem tw1165 : (Jvm.Cond.code ({ cls := "OpensAtNineModel", name := "set", desc := "(II)I" } : Jvm.MethodName) prog_11_method_10_code (4 : Nat) (Option.some Jvm.ClassFile.FieldType.int)) ∈ XT := XT5 137 rfl rfl
theorem tw1166 : (Jvm.Cond.methodLink "OpensAtNineLaw" (22 : Nat) ({ cls := "OpensAtNineModel", name := "come", desc := "()I" } : Jvm.MethodName)) ∈ XT := XT5 138 rfl rfl
theorem tw1167 : (Jvm.Cond.instanceMethod ({ cls := "OpensAtNineModel", name := "come", desc := "()I" } : Jvm.MethodName)) ∈ XT := XT5 139 rfl rfl
theorem tw1168 : (Jvm.Cond.selects "OpensAtNineModel" ({ cls := "OpensAtNineModel", name := "come", desc := "()I" } : Jvm.MethodName) ({ cls := "OpensAtNineModel", name := "come", desc := "()I" } : Jvm.MethodName)) ∈ XT := XT5 140 rfl rfl
theorem tw1169 : (Jvm.Cond.code ({ cls := "OpensAtNineModel", name := "come", desc := "()I" } : Jvm.MethodName) prog_11_method_11_code (1 : Nat) (Option.some Jvm.ClassFile.FieldType.int)) ∈ XT := XT5 141 rfl rfl
theorem tw1170 : (Jvm.Cond.methodLink "OpensAtNineLaw" (26 : Nat) ({ cls := "OpensAtNineModel", name := "stand", desc := "(II)I" } : Jvm.MethodName)) ∈ XT := XT5 142 rfl rfl
theorem tw1171 : (Jvm.Cond.instanceMethod ({ cls := "OpensAtNineModel", name := "stand", desc := "(II)I" } : Jvm.MethodName)) ∈ XT := XT5 143 rfl rfl
theorem tw1172 : (Jvm.Cond.selects "OpensAtNineModel" ({ cls := "OpensAtNineModel", name := "stand", desc := "(II)I" } : Jvm.MethodName) ({ cls := "OpensAtNineModel", name := "stand", desc := "(II)I" } : Jvm.MethodName)) ∈ XT := XT5 144 rfl rfl
theorem tw1173 : (Jvm.Cond.code ({ cls := "OpensAtNineModel", name := "stand", desc := "(II)I" } : Jvm.MethodName) prog_11_method_12_code (4 : Nat) (Option.some Jvm.ClassFile.FieldType.int)) ∈ XT := XT5 145 rfl rfl
theorem tw1174 : (Jvm.Cond.methodLink "OpensAtNineModel" (119 : Nat) ({ cls := "OpensAtNineModel", name := "isOne", desc := "(I)Z" } : Jvm.MethodName)) ∈ XT := XT5 146 rfl rfl
theorem tw1176 : (Jvm.Cond.instanceMethod ({ cls := "OpensAtNineModel", name := "isOne", desc := "(I)Z" } : Jvm.MethodName)) ∈ XT := XT5 148 rfl rfl
theorem tw1177 : (Jvm.Cond.code ({ cls := "OpensAtNineModel", name := "isOne", desc := "(I)Z" } : Jvm.MethodName) prog_11_method_5_code (2 : Nat) (Option.some Jvm.ClassFile.FieldType.boolean)) ∈ XT := XT5 149 rfl rfl
theorem tw1178 : (Jvm.Cond.methodLink "OpensAtNineLaw" (31 : Nat) ({ cls := "OpensAtNineModel", name := "count", desc := "(I)I" } : Jvm.MethodName)) ∈ XT := XT5 150 rfl rfl
theorem tw1179 : (Jvm.Cond.instanceMethod ({ cls := "OpensAtNineModel", name := "count", desc := "(I)I" } : Jvm.MethodName)) ∈ XT := XT5 151 rfl rfl
theorem tw1180 : (Jvm.Cond.selects "OpensAtNineModel" ({ cls := "OpensAtNineModel", name := "count", desc := "(I)I" } : Jvm.MethodName) ({ cls := "OpensAtNineModel", name := "count", desc := "(I)I" } : Jvm.MethodName)) ∈ XT := XT5 152 rfl rfl
theorem tw1181 : (Jvm.Cond.code ({ cls := "OpensAtNineModel", name := "count", desc := "(I)I" } : Jvm.MethodName) prog_11_method_13_code (2 : Nat) (Option.some Jvm.ClassFile.FieldType.int)) ∈ XT := XT5 153 rfl rfl
theorem tw1182 : (Jvm.Cond.methodLink "OpensAtNineLaw" (36 : Nat) ({ cls := "OpensAtNineModel", name := "feed", desc := "(IIIIII)I" } : Jvm.MethodName)) ∈ XT := XT5 154 rfl rfl
theorem tw1183 : (Jvm.Cond.instanceMethod ({ cls := "OpensAtNineModel", name := "feed", desc := "(IIIIII)I" } : Jvm.MethodName)) ∈ XT := XT5 155 rfl rfl
theorem tw1184 : (Jvm.Cond.selects "OpensAtNineModel" ({ cls := "OpensAtNineModel", name := "feed", desc := "(IIIIII)I" } : Jvm.MethodName) ({ cls := "OpensAtNineModel", name := "feed", desc := "(IIIIII)I" } : Jvm.MethodName)) ∈ XT := XT5 156 rfl rfl
theorem tw1185 : (Jvm.Cond.code ({ cls := "OpensAtNineModel", name := "feed", desc := "(IIIIII)I" } : Jvm.MethodName) prog_11_method_15_code (8 : Nat) (Option.some Jvm.ClassFile.FieldType.int)) ∈ XT := XT5 157 rfl rfl
theorem tw1186 : (Jvm.Cond.methodLink "OpensAtNineModel" (129 : Nat) ({ cls := "OpensAtNineModel", name := "isByte", desc := "(I)Z" } : Jvm.MethodName)) ∈ XT := XT5 158 rfl rfl
theorem tw1187 : (Jvm.Cond.static ({ cls := "OpensAtNineModel", name := "isByte", desc := "(I)Z" } : Jvm.MethodName)) ∈ XT := XT5 159 rfl rfl
theorem tw1188 : (Jvm.Cond.code ({ cls := "OpensAtNineModel", name := "isByte", desc := "(I)Z" } : Jvm.MethodName) prog_11_method_14_code (1 : Nat) (Option.some Jvm.ClassFile.FieldType.boolean)) ∈ XT := XT5 160 rfl rfl
theorem tw1189 : (Jvm.Cond.methodLink "OpensAtNineLaw" (40 : Nat) ({ cls := "OpensAtNineModel", name := "text", desc := "()I" } : Jvm.MethodName)) ∈ XT := XT5 161 rfl rfl
theorem tw1190 : (Jvm.Cond.methodLink "OpensAtNineLaw" (44 : Nat) ({ cls := "OpensAtNineModel", name := "force", desc := "(I)I" } : Jvm.MethodName)) ∈ XT := XT5 162 rfl rfl
theorem tw1191 : (Jvm.Cond.instanceMethod ({ cls := "OpensAtNineModel", name := "force", desc := "(I)I" } : Jvm.MethodName)) ∈ XT := XT5 163 rfl rfl
theorem tw1192 : (Jvm.Cond.selects "OpensAtNineModel" ({ cls := "OpensAtNineModel", name := "force", desc := "(I)I" } : Jvm.MethodName) ({ cls := "OpensAtNineModel", name := "force", desc := "(I)I" } : Jvm.MethodName)) ∈ XT := XT5 164 rfl rfl
theorem tw1193 : (Jvm.Cond.code ({ cls := "OpensAtNineModel", name := "force", desc := "(I)I" } : Jvm.MethodName) prog_11_method_29_code (3 : Nat) (Option.some Jvm.ClassFile.FieldType.int)) ∈ XT := XT5 165 rfl rfl
theorem tw1194 : (Jvm.Cond.methodLink "OpensAtNineLaw" (49 : Nat) ({ cls := "OpensAtNineModel", name := "asks", desc := "(IIIII)I" } : Jvm.MethodName)) ∈ XT := XT5 166 rfl rfl
theorem tw1195 : (Jvm.Cond.instanceMethod ({ cls := "OpensAtNineModel", name := "asks", desc := "(IIIII)I" } : Jvm.MethodName)) ∈ XT := XT5 167 rfl rfl
theorem tw1196 : (Jvm.Cond.selects "OpensAtNineModel" ({ cls := "OpensAtNineModel", name := "asks", desc := "(IIIII)I" } : Jvm.MethodName) ({ cls := "OpensAtNineModel", name := "asks", desc := "(IIIII)I" } : Jvm.MethodName)) ∈ XT := XT5 168 rfl rfl
theorem tw1197 : (Jvm.Cond.code ({ cls := "OpensAtNineModel", name := "asks", desc := "(IIIII)I" } : Jvm.MethodName) prog_11_method_32_code (7 : Nat) (Option.some Jvm.ClassFile.FieldType.int)) ∈ XT := XT5 169 rfl rfl
theorem tw1198 : (Jvm.Cond.methodLink "OpensAtNineModel" (220 : Nat) ({ cls := "OpensAtNineModel", name := "asksOf", desc := "(IIIIII)I" } : Jvm.MethodName)) ∈ XT := XT5 170 rfl rfl
theorem tw1200 : (Jvm.Cond.instanceMethod ({ cls := "OpensAtNineModel", name := "asksOf", desc := "(IIIIII)I" } : Jvm.MethodName)) ∈ XT := XT5 172 rfl rfl
theorem tw1201 : (Jvm.Cond.code ({ cls := "OpensAtNineModel", name := "asksOf", desc := "(IIIIII)I" } : Jvm.MethodName) prog_11_method_30_code (10 : Nat) (Option.some Jvm.ClassFile.FieldType.int)) ∈ XT := XT5 173 rfl rfl
theorem tw1202 : (Jvm.Cond.methodLink "OpensAtNineModel" (196 : Nat) ({ cls := "OpensAtNineModel", name := "worksOut", desc := "(IIIIII)I" } : Jvm.MethodName)) ∈ XT := XT5 174 rfl rfl
theorem tw1204 : (Jvm.Cond.instanceMethod ({ cls := "OpensAtNineModel", name := "worksOut", desc := "(IIIIII)I" } : Jvm.MethodName)) ∈ XT := XT5 176 rfl rfl
theorem tw1205 : (Jvm.Cond.code ({ cls := "OpensAtNineModel", name := "worksOut", desc := "(IIIIII)I" } : Jvm.MethodName) prog_11_method_31_code (8 : Nat) (Option.some Jvm.ClassFile.FieldType.int)) ∈ XT := XT5 177 rfl rfl
theorem tw1206 : (Jvm.Cond.methodLink "OpensAtNineModel" (214 : Nat) ({ cls := "OpensAtNineModel", name := "says", desc := "(I)I" } : Jvm.MethodName)) ∈ XT := XT5 178 rfl rfl
theorem tw1208 : (Jvm.Cond.instanceMethod ({ cls := "OpensAtNineModel", name := "says", desc := "(I)I" } : Jvm.MethodName)) ∈ XT := XT5 180 rfl rfl
theorem tw1209 : (Jvm.Cond.code ({ cls := "OpensAtNineModel", name := "says", desc := "(I)I" } : Jvm.MethodName) prog_11_method_28_code (5 : Nat) (Option.some Jvm.ClassFile.FieldType.int)) ∈ XT := XT5 181 rfl rfl
theorem tw1210 : (Jvm.Cond.methodLink "OpensAtNineModel" (188 : Nat) ({ cls := "OpensAtNineModel", name := "two", desc := "(III)I" } : Jvm.MethodName)) ∈ XT := XT5 182 rfl rfl
theorem tw1211 : (Jvm.Cond.static ({ cls := "OpensAtNineModel", name := "two", desc := "(III)I" } : Jvm.MethodName)) ∈ XT := XT5 183 rfl rfl
theorem tw1212 : (Jvm.Cond.code ({ cls := "OpensAtNineModel", name := "two", desc := "(III)I" } : Jvm.MethodName) prog_11_method_27_code (3 : Nat) (Option.some Jvm.ClassFile.FieldType.int)) ∈ XT := XT5 184 rfl rfl
theorem tw1213 : (Jvm.Cond.methodLink "OpensAtNineModel" (217 : Nat) ({ cls := "OpensAtNineModel", name := "within", desc := "(III)I" } : Jvm.MethodName)) ∈ XT := XT5 185 rfl rfl
theorem tw1214 : (Jvm.Cond.static ({ cls := "OpensAtNineModel", name := "within", desc := "(III)I" } : Jvm.MethodName)) ∈ XT := XT5 186 rfl rfl
theorem tw1215 : (Jvm.Cond.code ({ cls := "OpensAtNineModel", name := "within", desc := "(III)I" } : Jvm.MethodName) prog_11_method_4_code (3 : Nat) (Option.some Jvm.ClassFile.FieldType.int)) ∈ XT := XT5 187 rfl rfl
theorem tw1216 : (Jvm.Cond.constantLong "OpensAtNineModel" (200 : Nat) (10000 : Int64)) ∈ XT := XT5 188 rfl rfl
theorem tw1217 : (Jvm.Cond.constantLong "OpensAtNineModel" (202 : Nat) (1000 : Int64)) ∈ XT := XT5 189 rfl rfl
theorem tw1218 : (Jvm.Cond.constantLong "OpensAtNineModel" (204 : Nat) (100 : Int64)) ∈ XT := XT5 190 rfl rfl
theorem tw1219 : (Jvm.Cond.constantLong "OpensAtNineModel" (206 : Nat) (10 : Int64)) ∈ XT := XT5 191 rfl rfl
theorem tw1220 : (Jvm.Cond.constantLong "OpensAtNineModel" (208 : Nat) (31 : Int64)) ∈ XT := XT5 192 rfl rfl
theorem tw1221 : (Jvm.Cond.constantLong "OpensAtNineModel" (210 : Nat) (4099 : Int64)) ∈ XT := XT5 193 rfl rfl
theorem tw1222 : (Jvm.Cond.constantLong "OpensAtNineModel" (212 : Nat) (4096 : Int64)) ∈ XT := XT5 194 rfl rfl
theorem tw1223 : (Jvm.Cond.methodLink "OpensAtNineLaw" (54 : Nat) ({ cls := "OpensAtNineModel", name := "coin", desc := "(IIII)I" } : Jvm.MethodName)) ∈ XT := XT5 195 rfl rfl
theorem tw1224 : (Jvm.Cond.instanceMethod ({ cls := "OpensAtNineModel", name := "coin", desc := "(IIII)I" } : Jvm.MethodName)) ∈ XT := XT5 196 rfl rfl
theorem tw1225 : (Jvm.Cond.selects "OpensAtNineModel" ({ cls := "OpensAtNineModel", name := "coin", desc := "(IIII)I" } : Jvm.MethodName) ({ cls := "OpensAtNineModel", name := "coin", desc := "(IIII)I" } : Jvm.MethodName)) ∈ XT := XT5 197 rfl rfl
theorem tw1226 : (Jvm.Cond.code ({ cls := "OpensAtNineModel", name := "coin", desc := "(IIII)I" } : Jvm.MethodName) prog_11_method_33_code (5 : Nat) (Option.some Jvm.ClassFile.FieldType.int)) ∈ XT := XT5 198 rfl rfl
theorem tw1227 : (Jvm.Cond.methodLink "OpensAtNineLaw" (58 : Nat) ({ cls := "OpensAtNineModel", name := "sell", desc := "(II)I" } : Jvm.MethodName)) ∈ XT := XT5 199 rfl rfl
theorem tw1228 : (Jvm.Cond.instanceMethod ({ cls := "OpensAtNineModel", name := "sell", desc := "(II)I" } : Jvm.MethodName)) ∈ XT := XT5 200 rfl rfl
theorem tw1229 : (Jvm.Cond.selects "OpensAtNineModel" ({ cls := "OpensAtNineModel", name := "sell", desc := "(II)I" } : Jvm.MethodName) ({ cls := "OpensAtNineModel", name := "sell", desc := "(II)I" } : Jvm.MethodName)) ∈ XT := XT5 201 rfl rfl
theorem tw1230 : (Jvm.Cond.code ({ cls := "OpensAtNineModel", name := "sell", desc := "(II)I" } : Jvm.MethodName) prog_11_method_34_code (4 : Nat) (Option.some Jvm.ClassFile.FieldType.int)) ∈ XT := XT5 202 rfl rfl
theorem tw1231 : (Jvm.Cond.methodLink "OpensAtNineModel" (223 : Nat) ({ cls := "OpensAtNineModel", name := "isCoin", desc := "(I)Z" } : Jvm.MethodName)) ∈ XT := XT5 203 rfl rfl
theorem tw1233 : (Jvm.Cond.instanceMethod ({ cls := "OpensAtNineModel", name := "isCoin", desc := "(I)Z" } : Jvm.MethodName)) ∈ XT := XT5 205 rfl rfl
theorem tw1234 : (Jvm.Cond.code ({ cls := "OpensAtNineModel", name := "isCoin", desc := "(I)Z" } : Jvm.MethodName) prog_11_method_6_code (2 : Nat) (Option.some Jvm.ClassFile.FieldType.boolean)) ∈ XT := XT5 206 rfl rfl
theorem tw1235 : (Jvm.Cond.methodLink "OpensAtNineModel" (226 : Nat) ({ cls := "OpensAtNineModel", name := "isLeft", desc := "(I)Z" } : Jvm.MethodName)) ∈ XT := XT5 207 rfl rfl
theorem tw1237 : (Jvm.Cond.instanceMethod ({ cls := "OpensAtNineModel", name := "isLeft", desc := "(I)Z" } : Jvm.MethodName)) ∈ XT := XT5 209 rfl rfl
theorem tw1238 : (Jvm.Cond.code ({ cls := "OpensAtNineModel", name := "isLeft", desc := "(I)Z" } : Jvm.MethodName) prog_11_method_8_code (2 : Nat) (Option.some Jvm.ClassFile.FieldType.boolean)) ∈ XT := XT5 210 rfl rfl
theorem tw1239 : (Jvm.Cond.methodLink "OpensAtNineLaw" (62 : Nat) ({ cls := "OpensAtNineModel", name := "told", desc := "(II)I" } : Jvm.MethodName)) ∈ XT := XT5 211 rfl rfl
theorem tw1240 : (Jvm.Cond.instanceMethod ({ cls := "OpensAtNineModel", name := "told", desc := "(II)I" } : Jvm.MethodName)) ∈ XT := XT5 212 rfl rfl
theorem tw1241 : (Jvm.Cond.selects "OpensAtNineModel" ({ cls := "OpensAtNineModel", name := "told", desc := "(II)I" } : Jvm.MethodName) ({ cls := "OpensAtNineModel", name := "told", desc := "(II)I" } : Jvm.MethodName)) ∈ XT := XT5 213 rfl rfl
theorem tw1242 : (Jvm.Cond.code ({ cls := "OpensAtNineModel", name := "told", desc := "(II)I" } : Jvm.MethodName) prog_11_method_38_code (3 : Nat) (Option.some Jvm.ClassFile.FieldType.int)) ∈ XT := XT5 214 rfl rfl
theorem tw1243 : (Jvm.Cond.methodLink "OpensAtNineModel" (229 : Nat) ({ cls := "OpensAtNineModel", name := "countsNow", desc := "(I)I" } : Jvm.MethodName)) ∈ XT := XT5 215 rfl rfl
theorem tw1245 : (Jvm.Cond.instanceMethod ({ cls := "OpensAtNineModel", name := "countsNow", desc := "(I)I" } : Jvm.MethodName)) ∈ XT := XT5 217 rfl rfl
theorem tw1246 : (Jvm.Cond.code ({ cls := "OpensAtNineModel", name := "countsNow", desc := "(I)I" } : Jvm.MethodName) prog_11_method_35_code (5 : Nat) (Option.some Jvm.ClassFile.FieldType.int)) ∈ XT := XT5 218 rfl rfl
theorem tw1247 : (Jvm.Cond.methodLink "OpensAtNineModel" (232 : Nat) ({ cls := "OpensAtNineModel", name := "costsOf", desc := "(I)I" } : Jvm.MethodName)) ∈ XT := XT5 219 rfl rfl
theorem tw1249 : (Jvm.Cond.instanceMethod ({ cls := "OpensAtNineModel", name := "costsOf", desc := "(I)I" } : Jvm.MethodName)) ∈ XT := XT5 221 rfl rfl
theorem tw1250 : (Jvm.Cond.code ({ cls := "OpensAtNineModel", name := "costsOf", desc := "(I)I" } : Jvm.MethodName) prog_11_method_36_code (2 : Nat) (Option.some Jvm.ClassFile.FieldType.int)) ∈ XT := XT5 222 rfl rfl
theorem tw1251 : (Jvm.Cond.methodLink "OpensAtNineLaw" (66 : Nat) ({ cls := "OpensAtNineModel", name := "put", desc := "(I)I" } : Jvm.MethodName)) ∈ XT := XT5 223 rfl rfl
theorem tw1252 : (Jvm.Cond.instanceMethod ({ cls := "OpensAtNineModel", name := "put", desc := "(I)I" } : Jvm.MethodName)) ∈ XT := XT5 224 rfl rfl
theorem tw1253 : (Jvm.Cond.selects "OpensAtNineModel" ({ cls := "OpensAtNineModel", name := "put", desc := "(I)I" } : Jvm.MethodName) ({ cls := "OpensAtNineModel", name := "put", desc := "(I)I" } : Jvm.MethodName)) ∈ XT := XT5 225 rfl rfl
theorem tw1254 : (Jvm.Cond.code ({ cls := "OpensAtNineModel", name := "put", desc := "(I)I" } : Jvm.MethodName) prog_11_method_41_code (2 : Nat) (Option.some Jvm.ClassFile.FieldType.int)) ∈ XT := XT5 226 rfl rfl
theorem tw1255 : (Jvm.Cond.methodLink "OpensAtNineModel" (241 : Nat) ({ cls := "OpensAtNineModel", name := "canPut", desc := "(I)Z" } : Jvm.MethodName)) ∈ XT := XT5 227 rfl rfl
theorem tw1257 : (Jvm.Cond.instanceMethod ({ cls := "OpensAtNineModel", name := "canPut", desc := "(I)Z" } : Jvm.MethodName)) ∈ XT := XT5 229 rfl rfl
theorem tw1258 : (Jvm.Cond.code ({ cls := "OpensAtNineModel", name := "canPut", desc := "(I)Z" } : Jvm.MethodName) prog_11_method_39_code (2 : Nat) (Option.some Jvm.ClassFile.FieldType.boolean)) ∈ XT := XT5 230 rfl rfl
theorem tw1259 : (Jvm.Cond.methodLink "OpensAtNineModel" (235 : Nat) ({ cls := "OpensAtNineModel", name := "isInside", desc := "(I)Z" } : Jvm.MethodName)) ∈ XT := XT5 231 rfl rfl
theorem tw1261 : (Jvm.Cond.instanceMethod ({ cls := "OpensAtNineModel", name := "isInside", desc := "(I)Z" } : Jvm.MethodName)) ∈ XT := XT5 233 rfl rfl
theorem tw1262 : (Jvm.Cond.code ({ cls := "OpensAtNineModel", name := "isInside", desc := "(I)Z" } : Jvm.MethodName) prog_11_method_7_code (2 : Nat) (Option.some Jvm.ClassFile.FieldType.boolean)) ∈ XT := XT5 234 rfl rfl
theorem tw1263 : (Jvm.Cond.methodLink "OpensAtNineModel" (244 : Nat) ({ cls := "OpensAtNineModel", name := "paysIn", desc := "(I)Z" } : Jvm.MethodName)) ∈ XT := XT5 235 rfl rfl
theorem tw1265 : (Jvm.Cond.instanceMethod ({ cls := "OpensAtNineModel", name := "paysIn", desc := "(I)Z" } : Jvm.MethodName)) ∈ XT := XT5 237 rfl rfl
theorem tw1266 : (Jvm.Cond.code ({ cls := "OpensAtNineModel", name := "paysIn", desc := "(I)Z" } : Jvm.MethodName) prog_11_method_40_code (5 : Nat) (Option.some Jvm.ClassFile.FieldType.boolean)) ∈ XT := XT5 238 rfl rfl
theorem tw1267 : (Jvm.Cond.methodLink "OpensAtNineModel" (238 : Nat) ({ cls := "OpensAtNineModel", name := "leftOf", desc := "(I)I" } : Jvm.MethodName)) ∈ XT := XT5 239 rfl rfl
theorem tw1269 : (Jvm.Cond.instanceMethod ({ cls := "OpensAtNineModel", name := "leftOf", desc := "(I)I" } : Jvm.MethodName)) ∈ XT := XT6 1 rfl rfl
theorem tw1270 : (Jvm.Cond.code ({ cls := "OpensAtNineModel", name := "leftOf", desc := "(I)I" } : Jvm.MethodName) prog_11_method_37_code (4 : Nat) (Option.some Jvm.ClassFile.FieldType.int)) ∈ XT := XT6 2 rfl rfl
theorem tw1271 : (Jvm.Cond.methodLink "OpensAtNineLaw" (70 : Nat) ({ cls := "OpensAtNineModel", name := "worth", desc := "(I)I" } : Jvm.MethodName)) ∈ XT := XT6 3 rfl rfl
theorem tw1272 : (Jvm.Cond.instanceMethod ({ cls := "OpensAtNineModel", name := "worth", desc := "(I)I" } : Jvm.MethodName)) ∈ XT := XT6 4 rfl rfl
theorem tw1273 : (Jvm.Cond.selects "OpensAtNineModel" ({ cls := "OpensAtNineModel", name := "worth", desc := "(I)I" } : Jvm.MethodName) ({ cls := "OpensAtNineModel", name := "worth", desc := "(I)I" } : Jvm.MethodName)) ∈ XT := XT6 5 rfl rfl
theorem tw1274 : (Jvm.Cond.code ({ cls := "OpensAtNineModel", name := "worth", desc := "(I)I" } : Jvm.MethodName) prog_11_method_43_code (2 : Nat) (Option.some Jvm.ClassFile.FieldType.int)) ∈ XT := XT6 6 rfl rfl
theorem tw1275 : (Jvm.Cond.methodLink "OpensAtNineModel" (247 : Nat) ({ cls := "OpensAtNineModel", name := "worthOf", desc := "(I)I" } : Jvm.MethodName)) ∈ XT := XT6 7 rfl rfl
theorem tw1277 : (Jvm.Cond.instanceMethod ({ cls := "OpensAtNineModel", name := "worthOf", desc := "(I)I" } : Jvm.MethodName)) ∈ XT := XT6 9 rfl rfl
theorem tw1278 : (Jvm.Cond.code ({ cls := "OpensAtNineModel", name := "worthOf", desc := "(I)I" } : Jvm.MethodName) prog_11_method_42_code (4 : Nat) (Option.some Jvm.ClassFile.FieldType.int)) ∈ XT := XT6 10 rfl rfl
theorem tw1279 : (Jvm.Cond.constant "OpensAtNineModel" (250 : Nat) (-100000 : Int32)) ∈ XT := XT6 11 rfl rfl
theorem tw1280 : (Jvm.Cond.methodLink "OpensAtNineLaw" (74 : Nat) ({ cls := "OpensAtNineModel", name := "gang", desc := "(II)I" } : Jvm.MethodName)) ∈ XT := XT6 12 rfl rfl
theorem tw1281 : (Jvm.Cond.instanceMethod ({ cls := "OpensAtNineModel", name := "gang", desc := "(II)I" } : Jvm.MethodName)) ∈ XT := XT6 13 rfl rfl
theorem tw1282 : (Jvm.Cond.selects "OpensAtNineModel" ({ cls := "OpensAtNineModel", name := "gang", desc := "(II)I" } : Jvm.MethodName) ({ cls := "OpensAtNineModel", name := "gang", desc := "(II)I" } : Jvm.MethodName)) ∈ XT := XT6 14 rfl rfl
theorem tw1283 : (Jvm.Cond.code ({ cls := "OpensAtNineModel", name := "gang", desc := "(II)I" } : Jvm.MethodName) prog_11_method_48_code (3 : Nat) (Option.some Jvm.ClassFile.FieldType.int)) ∈ XT := XT6 15 rfl rfl
theorem tw1284 : (Jvm.Cond.methodLink "OpensAtNineModel" (270 : Nat) ({ cls := "OpensAtNineModel", name := "findsCheapest", desc := "(I)V" } : Jvm.MethodName)) ∈ XT := XT6 16 rfl rfl
theorem tw1286 : (Jvm.Cond.instanceMethod ({ cls := "OpensAtNineModel", name := "findsCheapest", desc := "(I)V" } : Jvm.MethodName)) ∈ XT := XT6 18 rfl rfl
theorem tw1287 : (Jvm.Cond.code ({ cls := "OpensAtNineModel", name := "findsCheapest", desc := "(I)V" } : Jvm.MethodName) prog_11_method_47_code (2 : Nat) (Option.none : Option Jvm.ClassFile.FieldType)) ∈ XT := XT6 19 rfl rfl
theorem tw1288 : (Jvm.Cond.methodLink "OpensAtNineModel" (263 : Nat) ({ cls := "OpensAtNineModel", name := "waysIn", desc := "(IIII)V" } : Jvm.MethodName)) ∈ XT := XT6 20 rfl rfl
theorem tw1290 : (Jvm.Cond.instanceMethod ({ cls := "OpensAtNineModel", name := "waysIn", desc := "(IIII)V" } : Jvm.MethodName)) ∈ XT := XT6 22 rfl rfl
theorem tw1291 : (Jvm.Cond.code ({ cls := "OpensAtNineModel", name := "waysIn", desc := "(IIII)V" } : Jvm.MethodName) prog_11_method_46_code (6 : Nat) (Option.none : Option Jvm.ClassFile.FieldType)) ∈ XT := XT6 23 rfl rfl
theorem tw1292 : (Jvm.Cond.methodLink "OpensAtNineModel" (260 : Nat) ({ cls := "OpensAtNineModel", name := "keeps", desc := "(I)V" } : Jvm.MethodName)) ∈ XT := XT6 24 rfl rfl
theorem tw1294 : (Jvm.Cond.instanceMethod ({ cls := "OpensAtNineModel", name := "keeps", desc := "(I)V" } : Jvm.MethodName)) ∈ XT := XT6 26 rfl rfl
theorem tw1295 : (Jvm.Cond.code ({ cls := "OpensAtNineModel", name := "keeps", desc := "(I)V" } : Jvm.MethodName) prog_11_method_44_code (2 : Nat) (Option.none : Option Jvm.ClassFile.FieldType)) ∈ XT := XT6 27 rfl rfl
theorem tw1296 : (Jvm.Cond.methodLink "OpensAtNineModel" (267 : Nat) ({ cls := "OpensAtNineModel", name := "laysBack", desc := "(I)V" } : Jvm.MethodName)) ∈ XT := XT6 28 rfl rfl
theorem tw1298 : (Jvm.Cond.instanceMethod ({ cls := "OpensAtNineModel", name := "laysBack", desc := "(I)V" } : Jvm.MethodName)) ∈ XT := XT6 30 rfl rfl
theorem tw1299 : (Jvm.Cond.code ({ cls := "OpensAtNineModel", name := "laysBack", desc := "(I)V" } : Jvm.MethodName) prog_11_method_45_code (2 : Nat) (Option.none : Option Jvm.ClassFile.FieldType)) ∈ XT := XT6 31 rfl rfl
theorem tw1300 : (Jvm.Cond.methodLink "OpensAtNineLaw" (78 : Nat) ({ cls := "OpensAtNineModel", name := "spare", desc := "(II)I" } : Jvm.MethodName)) ∈ XT := XT6 32 rfl rfl
theorem tw1301 : (Jvm.Cond.instanceMethod ({ cls := "OpensAtNineModel", name := "spare", desc := "(II)I" } : Jvm.MethodName)) ∈ XT := XT6 33 rfl rfl
theorem tw1302 : (Jvm.Cond.selects "OpensAtNineModel" ({ cls := "OpensAtNineModel", name := "spare", desc := "(II)I" } : Jvm.MethodName) ({ cls := "OpensAtNineModel", name := "spare", desc := "(II)I" } : Jvm.MethodName)) ∈ XT := XT6 34 rfl rfl
theorem tw1303 : (Jvm.Cond.code ({ cls := "OpensAtNineModel", name := "spare", desc := "(II)I" } : Jvm.MethodName) prog_11_method_50_code (5 : Nat) (Option.some Jvm.ClassFile.FieldType.int)) ∈ XT := XT6 35 rfl rfl
theorem tw1304 : (Jvm.Cond.methodLink "OpensAtNineModel" (273 : Nat) ({ cls := "OpensAtNineModel", name := "goesCheapest", desc := "()V" } : Jvm.MethodName)) ∈ XT := XT6 36 rfl rfl
theorem tw1306 : (Jvm.Cond.instanceMethod ({ cls := "OpensAtNineModel", name := "goesCheapest", desc := "()V" } : Jvm.MethodName)) ∈ XT := XT6 38 rfl rfl
theorem tw1307 : (Jvm.Cond.code ({ cls := "OpensAtNineModel", name := "goesCheapest", desc := "()V" } : Jvm.MethodName) prog_11_method_49_code (3 : Nat) (Option.none : Option Jvm.ClassFile.FieldType)) ∈ XT := XT6 39 rfl rfl
theorem tw1308 : (Jvm.Cond.methodLink "OpensAtNineLaw" (82 : Nat) ({ cls := "OpensAtNineModel", name := "reach", desc := "(I)I" } : Jvm.MethodName)) ∈ XT := XT6 40 rfl rfl
theorem tw1309 : (Jvm.Cond.instanceMethod ({ cls := "OpensAtNineModel", name := "reach", desc := "(I)I" } : Jvm.MethodName)) ∈ XT := XT6 41 rfl rfl
theorem tw1310 : (Jvm.Cond.selects "OpensAtNineModel" ({ cls := "OpensAtNineModel", name := "reach", desc := "(I)I" } : Jvm.MethodName) ({ cls := "OpensAtNineModel", name := "reach", desc := "(I)I" } : Jvm.MethodName)) ∈ XT := XT6 42 rfl rfl
theorem tw1311 : (Jvm.Cond.code ({ cls := "OpensAtNineModel", name := "reach", desc := "(I)I" } : Jvm.MethodName) prog_11_method_52_code (2 : Nat) (Option.some Jvm.ClassFile.FieldType.int)) ∈ XT := XT6 43 rfl rfl
theorem tw1312 : (Jvm.Cond.methodLink "OpensAtNineModel" (279 : Nat) ({ cls := "OpensAtNineModel", name := "restsFrom", desc := "(II)V" } : Jvm.MethodName)) ∈ XT := XT6 44 rfl rfl
theorem tw1314 : (Jvm.Cond.instanceMethod ({ cls := "OpensAtNineModel", name := "restsFrom", desc := "(II)V" } : Jvm.MethodName)) ∈ XT := XT6 46 rfl rfl
theorem tw1315 : (Jvm.Cond.code ({ cls := "OpensAtNineModel", name := "restsFrom", desc := "(II)V" } : Jvm.MethodName) prog_11_method_51_code (4 : Nat) (Option.none : Option Jvm.ClassFile.FieldType)) ∈ XT := XT6 47 rfl rfl
theorem tw1316 : (Jvm.Cond.methodLink "OpensAtNineLaw" (86 : Nat) ({ cls := "OpensAtNineModel", name := "keys", desc := "()I" } : Jvm.MethodName)) ∈ XT := XT6 48 rfl rfl
theorem tw1317 : (Jvm.Cond.instanceMethod ({ cls := "OpensAtNineModel", name := "keys", desc := "()I" } : Jvm.MethodName)) ∈ XT := XT6 49 rfl rfl
theorem tw1318 : (Jvm.Cond.selects "OpensAtNineModel" ({ cls := "OpensAtNineModel", name := "keys", desc := "()I" } : Jvm.MethodName) ({ cls := "OpensAtNineModel", name := "keys", desc := "()I" } : Jvm.MethodName)) ∈ XT := XT6 50 rfl rfl
theorem tw1319 : (Jvm.Cond.code ({ cls := "OpensAtNineModel", name := "keys", desc := "()I" } : Jvm.MethodName) prog_11_method_54_code (3 : Nat) (Option.some Jvm.ClassFile.FieldType.int)) ∈ XT := XT6 51 rfl rfl
theorem tw1320 : (Jvm.Cond.methodLink "OpensAtNineModel" (283 : Nat) ({ cls := "OpensAtNineModel", name := "wouldOpen", desc := "(II)Z" } : Jvm.MethodName)) ∈ XT := XT6 52 rfl rfl
theorem tw1322 : (Jvm.Cond.instanceMethod ({ cls := "OpensAtNineModel", name := "wouldOpen", desc := "(II)Z" } : Jvm.MethodName)) ∈ XT := XT6 54 rfl rfl
theorem tw1323 : (Jvm.Cond.code ({ cls := "OpensAtNineModel", name := "wouldOpen", desc := "(II)Z" } : Jvm.MethodName) prog_11_method_53_code (4 : Nat) (Option.some Jvm.ClassFile.FieldType.boolean)) ∈ XT := XT6 55 rfl rfl
theorem tw1324 : (Jvm.Cond.methodLink "OpensAtNineLaw" (90 : Nat) ({ cls := "OpensAtNineModel", name := "gifts", desc := "()I" } : Jvm.MethodName)) ∈ XT := XT6 56 rfl rfl
theorem tw1325 : (Jvm.Cond.instanceMethod ({ cls := "OpensAtNineModel", name := "gifts", desc := "()I" } : Jvm.MethodName)) ∈ XT := XT6 57 rfl rfl
theorem tw1326 : (Jvm.Cond.selects "OpensAtNineModel" ({ cls := "OpensAtNineModel", name := "gifts", desc := "()I" } : Jvm.MethodName) ({ cls := "OpensAtNineModel", name := "gifts", desc := "()I" } : Jvm.MethodName)) ∈ XT := XT6 58 rfl rfl
theorem tw1327 : (Jvm.Cond.code ({ cls := "OpensAtNineModel", name := "gifts", desc := "()I" } : Jvm.MethodName) prog_11_method_56_code (3 : Nat) (Option.some Jvm.ClassFile.FieldType.int)) ∈ XT := XT6 59 rfl rfl
theorem tw1328 : (Jvm.Cond.methodLink "OpensAtNineModel" (287 : Nat) ({ cls := "OpensAtNineModel", name := "isGift", desc := "(I)Z" } : Jvm.MethodName)) ∈ XT := XT6 60 rfl rfl
theorem tw1330 : (Jvm.Cond.instanceMethod ({ cls := "OpensAtNineModel", name := "isGift", desc := "(I)Z" } : Jvm.MethodName)) ∈ XT := XT6 62 rfl rfl
theorem tw1331 : (Jvm.Cond.code ({ cls := "OpensAtNineModel", name := "isGift", desc := "(I)Z" } : Jvm.MethodName) prog_11_method_55_code (4 : Nat) (Option.some Jvm.ClassFile.FieldType.boolean)) ∈ XT := XT6 63 rfl rfl
theorem tw1332 : (Jvm.Cond.methodLink "OpensAtNineLaw" (94 : Nat) ({ cls := "OpensAtNineModel", name := "rest", desc := "(II)I" } : Jvm.MethodName)) ∈ XT := XT6 64 rfl rfl
theorem tw1333 : (Jvm.Cond.instanceMethod ({ cls := "OpensAtNineModel", name := "rest", desc := "(II)I" } : Jvm.MethodName)) ∈ XT := XT6 65 rfl rfl
theorem tw1334 : (Jvm.Cond.selects "OpensAtNineModel" ({ cls := "OpensAtNineModel", name := "rest", desc := "(II)I" } : Jvm.MethodName) ({ cls := "OpensAtNineModel", name := "rest", desc := "(II)I" } : Jvm.MethodName)) ∈ XT := XT6 66 rfl rfl
theorem tw1335 : (Jvm.Cond.code ({ cls := "OpensAtNineModel", name := "rest", desc := "(II)I" } : Jvm.MethodName) prog_11_method_61_code (3 : Nat) (Option.some Jvm.ClassFile.FieldType.int)) ∈ XT := XT6 67 rfl rfl
theorem tw1336 : (Jvm.Cond.methodLink "OpensAtNineModel" (302 : Nat) ({ cls := "OpensAtNineModel", name := "goesByTurns", desc := "(I)V" } : Jvm.MethodName)) ∈ XT := XT6 68 rfl rfl
theorem tw1338 : (Jvm.Cond.instanceMethod ({ cls := "OpensAtNineModel", name := "goesByTurns", desc := "(I)V" } : Jvm.MethodName)) ∈ XT := XT6 70 rfl rfl
theorem tw1339 : (Jvm.Cond.code ({ cls := "OpensAtNineModel", name := "goesByTurns", desc := "(I)V" } : Jvm.MethodName) prog_11_method_60_code (3 : Nat) (Option.none : Option Jvm.ClassFile.FieldType)) ∈ XT := XT6 71 rfl rfl
theorem tw1340 : (Jvm.Cond.constantLong "OpensAtNineModel" (300 : Nat) (-1 : Int64)) ∈ XT := XT6 72 rfl rfl
theorem tw1341 : (Jvm.Cond.methodLink "OpensAtNineModel" (293 : Nat) ({ cls := "OpensAtNineModel", name := "turns", desc := "(II)V" } : Jvm.MethodName)) ∈ XT := XT6 73 rfl rfl
theorem tw1343 : (Jvm.Cond.instanceMethod ({ cls := "OpensAtNineModel", name := "turns", desc := "(II)V" } : Jvm.MethodName)) ∈ XT := XT6 75 rfl rfl
theorem tw1344 : (Jvm.Cond.code ({ cls := "OpensAtNineModel", name := "turns", desc := "(II)V" } : Jvm.MethodName) prog_11_method_59_code (5 : Nat) (Option.none : Option Jvm.ClassFile.FieldType)) ∈ XT := XT6 76 rfl rfl
theorem tw1345 : (Jvm.Cond.methodLink "OpensAtNineModel" (290 : Nat) ({ cls := "OpensAtNineModel", name := "endsNow", desc := "(I)V" } : Jvm.MethodName)) ∈ XT := XT6 77 rfl rfl
theorem tw1347 : (Jvm.Cond.instanceMethod ({ cls := "OpensAtNineModel", name := "endsNow", desc := "(I)V" } : Jvm.MethodName)) ∈ XT := XT6 79 rfl rfl
theorem tw1348 : (Jvm.Cond.code ({ cls := "OpensAtNineModel", name := "endsNow", desc := "(I)V" } : Jvm.MethodName) prog_11_method_57_code (3 : Nat) (Option.none : Option Jvm.ClassFile.FieldType)) ∈ XT := XT6 80 rfl rfl
theorem tw1349 : (Jvm.Cond.methodLink "OpensAtNineModel" (296 : Nat) ({ cls := "OpensAtNineModel", name := "takes", desc := "(IIIIZ)V" } : Jvm.MethodName)) ∈ XT := XT6 81 rfl rfl
theorem tw1351 : (Jvm.Cond.instanceMethod ({ cls := "OpensAtNineModel", name := "takes", desc := "(IIIIZ)V" } : Jvm.MethodName)) ∈ XT := XT6 83 rfl rfl
theorem tw1352 : (Jvm.Cond.code ({ cls := "OpensAtNineModel", name := "takes", desc := "(IIIIZ)V" } : Jvm.MethodName) prog_11_method_58_code (7 : Nat) (Option.none : Option Jvm.ClassFile.FieldType)) ∈ XT := XT6 84 rfl rfl
theorem tw1353 : (Jvm.Cond.methodLink "OpensAtNineLaw" (98 : Nat) ({ cls := "OpensAtNineModel", name := "moves", desc := "(I)I" } : Jvm.MethodName)) ∈ XT := XT6 85 rfl rfl
theorem tw1354 : (Jvm.Cond.instanceMethod ({ cls := "OpensAtNineModel", name := "moves", desc := "(I)I" } : Jvm.MethodName)) ∈ XT := XT6 86 rfl rfl
theorem tw1355 : (Jvm.Cond.selects "OpensAtNineModel" ({ cls := "OpensAtNineModel", name := "moves", desc := "(I)I" } : Jvm.MethodName) ({ cls := "OpensAtNineModel", name := "moves", desc := "(I)I" } : Jvm.MethodName)) ∈ XT := XT6 87 rfl rfl
theorem tw1356 : (Jvm.Cond.code ({ cls := "OpensAtNineModel", name := "moves", desc := "(I)I" } : Jvm.MethodName) prog_11_method_62_code (4 : Nat) (Option.some Jvm.ClassFile.FieldType.int)) ∈ XT := XT6 88 rfl rfl
theorem tw1357 : (Jvm.Cond.methodLink "OpensAtNineLaw" (102 : Nat) ({ cls := "OpensAtNineModel", name := "play", desc := "(I)I" } : Jvm.MethodName)) ∈ XT := XT6 89 rfl rfl
theorem tw1358 : (Jvm.Cond.instanceMethod ({ cls := "OpensAtNineModel", name := "play", desc := "(I)I" } : Jvm.MethodName)) ∈ XT := XT6 90 rfl rfl
theorem tw1359 : (Jvm.Cond.selects "OpensAtNineModel" ({ cls := "OpensAtNineModel", name := "play", desc := "(I)I" } : Jvm.MethodName) ({ cls := "OpensAtNineModel", name := "play", desc := "(I)I" } : Jvm.MethodName)) ∈ XT := XT6 91 rfl rfl
theorem tw1360 : (Jvm.Cond.code ({ cls := "OpensAtNineModel", name := "play", desc := "(I)I" } : Jvm.MethodName) prog_11_method_63_code (3 : Nat) (Option.some Jvm.ClassFile.FieldType.int)) ∈ XT := XT6 92 rfl rfl
theorem tw1361 : (Jvm.Cond.methodLink "OpensAtNineModel" (305 : Nat) ({ cls := "OpensAtNineModel", name := "ones", desc := "(I)I" } : Jvm.MethodName)) ∈ XT := XT6 93 rfl rfl
theorem tw1362 : (Jvm.Cond.static ({ cls := "OpensAtNineModel", name := "ones", desc := "(I)I" } : Jvm.MethodName)) ∈ XT := XT6 94 rfl rfl
theorem tw1363 : (Jvm.Cond.code ({ cls := "OpensAtNineModel", name := "ones", desc := "(I)I" } : Jvm.MethodName) prog_11_method_9_code (3 : Nat) (Option.some Jvm.ClassFile.FieldType.int)) ∈ XT := XT6 95 rfl rfl
theorem tw1364 : (Jvm.Cond.methodLink "OpensAtNineLaw" (106 : Nat) ({ cls := "OpensAtNineModel", name := "which", desc := "(II)I" } : Jvm.MethodName)) ∈ XT := XT6 96 rfl rfl
theorem tw1365 : (Jvm.Cond.instanceMethod ({ cls := "OpensAtNineModel", name := "which", desc := "(II)I" } : Jvm.MethodName)) ∈ XT := XT6 97 rfl rfl
theorem tw1366 : (Jvm.Cond.selects "OpensAtNineModel" ({ cls := "OpensAtNineModel", name := "which", desc := "(II)I" } : Jvm.MethodName) ({ cls := "OpensAtNineModel", name := "which", desc := "(II)I" } : Jvm.MethodName)) ∈ XT := XT6 98 rfl rfl
theorem tw1367 : (Jvm.Cond.code ({ cls := "OpensAtNineModel", name := "which", desc := "(II)I" } : Jvm.MethodName) prog_11_method_67_code (4 : Nat) (Option.some Jvm.ClassFile.FieldType.int)) ∈ XT := XT6 99 rfl rfl
theorem tw1368 : (Jvm.Cond.methodLink "OpensAtNineModel" (314 : Nat) ({ cls := "OpensAtNineModel", name := "sheetWrong", desc := "(I)I" } : Jvm.MethodName)) ∈ XT := XT6 100 rfl rfl
theorem tw1370 : (Jvm.Cond.instanceMethod ({ cls := "OpensAtNineModel", name := "sheetWrong", desc := "(I)I" } : Jvm.MethodName)) ∈ XT := XT6 102 rfl rfl
theorem tw1371 : (Jvm.Cond.code ({ cls := "OpensAtNineModel", name := "sheetWrong", desc := "(I)I" } : Jvm.MethodName) prog_11_method_64_code (2 : Nat) (Option.some Jvm.ClassFile.FieldType.int)) ∈ XT := XT6 103 rfl rfl
theorem tw1372 : (Jvm.Cond.methodLink "OpensAtNineModel" (317 : Nat) ({ cls := "OpensAtNineModel", name := "numbersFor", desc := "(II)I" } : Jvm.MethodName)) ∈ XT := XT6 104 rfl rfl
theorem tw1374 : (Jvm.Cond.instanceMethod ({ cls := "OpensAtNineModel", name := "numbersFor", desc := "(II)I" } : Jvm.MethodName)) ∈ XT := XT6 106 rfl rfl
theorem tw1375 : (Jvm.Cond.code ({ cls := "OpensAtNineModel", name := "numbersFor", desc := "(II)I" } : Jvm.MethodName) prog_11_method_66_code (7 : Nat) (Option.some Jvm.ClassFile.FieldType.int)) ∈ XT := XT6 107 rfl rfl
theorem tw1376 : (Jvm.Cond.methodLink "OpensAtNineModel" (311 : Nat) ({ cls := "OpensAtNineModel", name := "isWhole", desc := "(II)Z" } : Jvm.MethodName)) ∈ XT := XT6 108 rfl rfl
theorem tw1377 : (Jvm.Cond.static ({ cls := "OpensAtNineModel", name := "isWhole", desc := "(II)Z" } : Jvm.MethodName)) ∈ XT := XT6 109 rfl rfl
theorem tw1378 : (Jvm.Cond.code ({ cls := "OpensAtNineModel", name := "isWhole", desc := "(II)Z" } : Jvm.MethodName) prog_11_method_65_code (2 : Nat) (Option.some Jvm.ClassFile.FieldType.boolean)) ∈ XT := XT6 110 rfl rfl
theorem tw1379 : (Jvm.Cond.methodLink "OpensAtNineLaw" (111 : Nat) ({ cls := "OpensAtNineModel", name := "next", desc := "(III)I" } : Jvm.MethodName)) ∈ XT := XT6 111 rfl rfl
theorem tw1380 : (Jvm.Cond.instanceMethod ({ cls := "OpensAtNineModel", name := "next", desc := "(III)I" } : Jvm.MethodName)) ∈ XT := XT6 112 rfl rfl
theorem tw1381 : (Jvm.Cond.selects "OpensAtNineModel" ({ cls := "OpensAtNineModel", name := "next", desc := "(III)I" } : Jvm.MethodName) ({ cls := "OpensAtNineModel", name := "next", desc := "(III)I" } : Jvm.MethodName)) ∈ XT := XT6 113 rfl rfl
theorem tw1382 : (Jvm.Cond.code ({ cls := "OpensAtNineModel", name := "next", desc := "(III)I" } : Jvm.MethodName) prog_11_method_68_code (12 : Nat) (Option.some Jvm.ClassFile.FieldType.int)) ∈ XT := XT6 114 rfl rfl
theorem tw1383 : (Jvm.Cond.methodLink "OpensAtNineLaw" (115 : Nat) ({ cls := "OpensAtNineModel", name := "judge", desc := "(I)I" } : Jvm.MethodName)) ∈ XT := XT6 115 rfl rfl
theorem tw1384 : (Jvm.Cond.instanceMethod ({ cls := "OpensAtNineModel", name := "judge", desc := "(I)I" } : Jvm.MethodName)) ∈ XT := XT6 116 rfl rfl
theorem tw1385 : (Jvm.Cond.selects "OpensAtNineModel" ({ cls := "OpensAtNineModel", name := "judge", desc := "(I)I" } : Jvm.MethodName) ({ cls := "OpensAtNineModel", name := "judge", desc := "(I)I" } : Jvm.MethodName)) ∈ XT := XT6 117 rfl rfl
theorem tw1386 : (Jvm.Cond.code ({ cls := "OpensAtNineModel", name := "judge", desc := "(I)I" } : Jvm.MethodName) prog_11_method_70_code (3 : Nat) (Option.some Jvm.ClassFile.FieldType.int)) ∈ XT := XT6 118 rfl rfl
theorem tw1387 : (Jvm.Cond.methodLink "OpensAtNineModel" (320 : Nat) ({ cls := "OpensAtNineModel", name := "unlike", desc := "(I)I" } : Jvm.MethodName)) ∈ XT := XT6 119 rfl rfl
theorem tw1389 : (Jvm.Cond.instanceMethod ({ cls := "OpensAtNineModel", name := "unlike", desc := "(I)I" } : Jvm.MethodName)) ∈ XT := XT6 121 rfl rfl
theorem tw1390 : (Jvm.Cond.code ({ cls := "OpensAtNineModel", name := "unlike", desc := "(I)I" } : Jvm.MethodName) prog_11_method_69_code (6 : Nat) (Option.some Jvm.ClassFile.FieldType.int)) ∈ XT := XT6 122 rfl rfl
theorem tw1391 : (Jvm.Cond.methodLink "OpensAtNineLaw" (119 : Nat) ({ cls := "OpensAtNineModel", name := "laws", desc := "(I)I" } : Jvm.MethodName)) ∈ XT := XT6 123 rfl rfl
theorem tw1392 : (Jvm.Cond.instanceMethod ({ cls := "OpensAtNineModel", name := "laws", desc := "(I)I" } : Jvm.MethodName)) ∈ XT := XT6 124 rfl rfl
theorem tw1393 : (Jvm.Cond.selects "OpensAtNineModel" ({ cls := "OpensAtNineModel", name := "laws", desc := "(I)I" } : Jvm.MethodName) ({ cls := "OpensAtNineModel", name := "laws", desc := "(I)I" } : Jvm.MethodName)) ∈ XT := XT6 125 rfl rfl
theorem tw1394 : (Jvm.Cond.code ({ cls := "OpensAtNineModel", name := "laws", desc := "(I)I" } : Jvm.MethodName) prog_11_method_71_code (6 : Nat) (Option.some Jvm.ClassFile.FieldType.int)) ∈ XT := XT6 126 rfl rfl
theorem tw1395 : (Jvm.Cond.methodLink "OpensAtNineLaw" (123 : Nat) ({ cls := "OpensAtNineModel", name := "numbers", desc := "(I)I" } : Jvm.MethodName)) ∈ XT := XT6 127 rfl rfl
theorem tw1396 : (Jvm.Cond.instanceMethod ({ cls := "OpensAtNineModel", name := "numbers", desc := "(I)I" } : Jvm.MethodName)) ∈ XT := XT6 128 rfl rfl
theorem tw1397 : (Jvm.Cond.selects "OpensAtNineModel" ({ cls := "OpensAtNineModel", name := "numbers", desc := "(I)I" } : Jvm.MethodName) ({ cls := "OpensAtNineModel", name := "numbers", desc := "(I)I" } : Jvm.MethodName)) ∈ XT := XT6 129 rfl rfl
theorem tw1398 : (Jvm.Cond.code ({ cls := "OpensAtNineModel", name := "numbers", desc := "(I)I" } : Jvm.MethodName) prog_11_method_72_code (6 : Nat) (Option.some Jvm.ClassFile.FieldType.int)) ∈ XT := XT6 130 rfl rfl
theorem tw1399 : (Jvm.Cond.methodLink "OpensAtNineLaw" (127 : Nat) ({ cls := "OpensAtNineModel", name := "film", desc := "(I)I" } : Jvm.MethodName)) ∈ XT := XT6 131 rfl rfl
theorem tw1400 : (Jvm.Cond.instanceMethod ({ cls := "OpensAtNineModel", name := "film", desc := "(I)I" } : Jvm.MethodName)) ∈ XT := XT6 132 rfl rfl
theorem tw1401 : (Jvm.Cond.selects "OpensAtNineModel" ({ cls := "OpensAtNineModel", name := "film", desc := "(I)I" } : Jvm.MethodName) ({ cls := "OpensAtNineModel", name := "film", desc := "(I)I" } : Jvm.MethodName)) ∈ XT := XT6 133 rfl rfl
theorem tw1402 : (Jvm.Cond.code ({ cls := "OpensAtNineModel", name := "film", desc := "(I)I" } : Jvm.MethodName) prog_11_method_73_code (4 : Nat) (Option.some Jvm.ClassFile.FieldType.int)) ∈ XT := XT6 134 rfl rfl
theorem tw1403 : (Jvm.Cond.methodLink "OpensAtNineLaw" (131 : Nat) ({ cls := "OpensAtNineModel", name := "drawn", desc := "(I)I" } : Jvm.MethodName)) ∈ XT := XT6 135 rfl rfl
theorem tw1404 : (Jvm.Cond.instanceMethod ({ cls := "OpensAtNineModel", name := "drawn", desc := "(I)I" } : Jvm.MethodName)) ∈ XT := XT6 136 rfl rfl
theorem tw1405 : (Jvm.Cond.selects "OpensAtNineModel" ({ cls := "OpensAtNineModel", name := "drawn", desc := "(I)I" } : Jvm.MethodName) ({ cls := "OpensAtNineModel", name := "drawn", desc := "(I)I" } : Jvm.MethodName)) ∈ XT := XT6 137 rfl rfl
theorem tw1406 : (Jvm.Cond.code ({ cls := "OpensAtNineModel", name := "drawn", desc := "(I)I" } : Jvm.MethodName) prog_11_method_75_code (2 : Nat) (Option.some Jvm.ClassFile.FieldType.int)) ∈ XT := XT6 138 rfl rfl
theorem tw1407 : (Jvm.Cond.constant "OpensAtNineModel" (327 : Nat) (99999 : Int32)) ∈ XT := XT6 139 rfl rfl
theorem tw1408 : (Jvm.Cond.methodLink "OpensAtNineModel" (328 : Nat) ({ cls := "OpensAtNineModel", name := "insideBy", desc := "(I)I" } : Jvm.MethodName)) ∈ XT := XT6 140 rfl rfl
theorem tw1410 : (Jvm.Cond.instanceMethod ({ cls := "OpensAtNineModel", name := "insideBy", desc := "(I)I" } : Jvm.MethodName)) ∈ XT := XT6 142 rfl rfl
theorem tw1411 : (Jvm.Cond.code ({ cls := "OpensAtNineModel", name := "insideBy", desc := "(I)I" } : Jvm.MethodName) prog_11_method_74_code (6 : Nat) (Option.some Jvm.ClassFile.FieldType.int)) ∈ XT := XT6 143 rfl rfl
theorem tw1412 : (Jvm.Cond.constantLong "OpensAtNineModel" (323 : Nat) (48271 : Int64)) ∈ XT := XT6 144 rfl rfl
theorem tw1413 : (Jvm.Cond.constantLong "OpensAtNineModel" (325 : Nat) (2147483647 : Int64)) ∈ XT := XT6 145 rfl rfl
theorem tw1414 : (Jvm.Cond.methodLink "OpensAtNineLaw" (136 : Nat) ({ cls := "OpensAtNineModel", name := "mean", desc := "(III)J" } : Jvm.MethodName)) ∈ XT := XT6 146 rfl rfl
theorem tw1415 : (Jvm.Cond.instanceMethod ({ cls := "OpensAtNineModel", name := "mean", desc := "(III)J" } : Jvm.MethodName)) ∈ XT := XT6 147 rfl rfl
theorem tw1416 : (Jvm.Cond.selects "OpensAtNineModel" ({ cls := "OpensAtNineModel", name := "mean", desc := "(III)J" } : Jvm.MethodName) ({ cls := "OpensAtNineModel", name := "mean", desc := "(III)J" } : Jvm.MethodName)) ∈ XT := XT6 148 rfl rfl
theorem tw1417 : (Jvm.Cond.code ({ cls := "OpensAtNineModel", name := "mean", desc := "(III)J" } : Jvm.MethodName) prog_11_method_77_code (7 : Nat) (Option.some Jvm.ClassFile.FieldType.long)) ∈ XT := XT6 149 rfl rfl
theorem tw1418 : (Jvm.Cond.constantLong "OpensAtNineModel" (331 : Nat) (-4611686018427387904 : Int64)) ∈ XT := XT6 150 rfl rfl
theorem tw1419 : (Jvm.Cond.methodLink "OpensAtNineModel" (333 : Nat) ({ cls := "OpensAtNineModel", name := "lowest", desc := "(JJI)J" } : Jvm.MethodName)) ∈ XT := XT6 151 rfl rfl
theorem tw1420 : (Jvm.Cond.static ({ cls := "OpensAtNineModel", name := "lowest", desc := "(JJI)J" } : Jvm.MethodName)) ∈ XT := XT6 152 rfl rfl
theorem tw1421 : (Jvm.Cond.code ({ cls := "OpensAtNineModel", name := "lowest", desc := "(JJI)J" } : Jvm.MethodName) prog_11_method_76_code (11 : Nat) (Option.some Jvm.ClassFile.FieldType.long)) ∈ XT := XT6 153 rfl rfl
theorem tw1422 : (Jvm.Cond.methodLink "OpensAtNineLaw" (140 : Nat) ({ cls := "OpensAtNineModel", name := "image", desc := "()I" } : Jvm.MethodName)) ∈ XT := XT6 154 rfl rfl
theorem tw1423 : (Jvm.Cond.instanceMethod ({ cls := "OpensAtNineModel", name := "image", desc := "()I" } : Jvm.MethodName)) ∈ XT := XT6 155 rfl rfl
theorem tw1424 : (Jvm.Cond.selects "OpensAtNineModel" ({ cls := "OpensAtNineModel", name := "image", desc := "()I" } : Jvm.MethodName) ({ cls := "OpensAtNineModel", name := "image", desc := "()I" } : Jvm.MethodName)) ∈ XT := XT6 156 rfl rfl
theorem tw1425 : (Jvm.Cond.code ({ cls := "OpensAtNineModel", name := "image", desc := "()I" } : Jvm.MethodName) prog_11_method_78_code (2 : Nat) (Option.some Jvm.ClassFile.FieldType.int)) ∈ XT := XT6 157 rfl rfl
theorem tw1426 : (Jvm.Cond.methodLink "OpensAtNineLaw" (144 : Nat) ({ cls := "OpensAtNineModel", name := "back", desc := "()I" } : Jvm.MethodName)) ∈ XT := XT6 158 rfl rfl
theorem tw1427 : (Jvm.Cond.instanceMethod ({ cls := "OpensAtNineModel", name := "back", desc := "()I" } : Jvm.MethodName)) ∈ XT := XT6 159 rfl rfl
theorem tw1428 : (Jvm.Cond.selects "OpensAtNineModel" ({ cls := "OpensAtNineModel", name := "back", desc := "()I" } : Jvm.MethodName) ({ cls := "OpensAtNineModel", name := "back", desc := "()I" } : Jvm.MethodName)) ∈ XT := XT6 160 rfl rfl
theorem tw1429 : (Jvm.Cond.code ({ cls := "OpensAtNineModel", name := "back", desc := "()I" } : Jvm.MethodName) prog_11_method_79_code (2 : Nat) (Option.some Jvm.ClassFile.FieldType.int)) ∈ XT := XT6 161 rfl rfl
theorem tw1430 : (Jvm.Cond.methodLink "OpensAtNineLaw" (148 : Nat) ({ cls := "OpensAtNineModel", name := "sheet", desc := "(III)I" } : Jvm.MethodName)) ∈ XT := XT6 162 rfl rfl
theorem tw1431 : (Jvm.Cond.instanceMethod ({ cls := "OpensAtNineModel", name := "sheet", desc := "(III)I" } : Jvm.MethodName)) ∈ XT := XT6 163 rfl rfl
theorem tw1432 : (Jvm.Cond.selects "OpensAtNineModel" ({ cls := "OpensAtNineModel", name := "sheet", desc := "(III)I" } : Jvm.MethodName) ({ cls := "OpensAtNineModel", name := "sheet", desc := "(III)I" } : Jvm.MethodName)) ∈ XT := XT6 164 rfl rfl
theorem tw1433 : (Jvm.Cond.code ({ cls := "OpensAtNineModel", name := "sheet", desc := "(III)I" } : Jvm.MethodName) prog_11_method_80_code (5 : Nat) (Option.some Jvm.ClassFile.FieldType.int)) ∈ XT := XT6 165 rfl rfl
theorem tw1434 : (Jvm.Cond.methodLink "OpensAtNineLaw" (152 : Nat) ({ cls := "OpensAtNineModel", name := "cell", desc := "(III)I" } : Jvm.MethodName)) ∈ XT := XT6 166 rfl rfl
theorem tw1435 : (Jvm.Cond.instanceMethod ({ cls := "OpensAtNineModel", name := "cell", desc := "(III)I" } : Jvm.MethodName)) ∈ XT := XT6 167 rfl rfl
theorem tw1436 : (Jvm.Cond.selects "OpensAtNineModel" ({ cls := "OpensAtNineModel", name := "cell", desc := "(III)I" } : Jvm.MethodName) ({ cls := "OpensAtNineModel", name := "cell", desc := "(III)I" } : Jvm.MethodName)) ∈ XT := XT6 168 rfl rfl
theorem tw1437 : (Jvm.Cond.code ({ cls := "OpensAtNineModel", name := "cell", desc := "(III)I" } : Jvm.MethodName) prog_11_method_81_code (4 : Nat) (Option.some Jvm.ClassFile.FieldType.int)) ∈ XT := XT6 169 rfl rfl
theorem tw1438 : (Jvm.Cond.methodLink "OpensAtNineLaw" (156 : Nat) ({ cls := "OpensAtNineModel", name := "copy", desc := "(IIIII)I" } : Jvm.MethodName)) ∈ XT := XT6 170 rfl rfl
theorem tw1439 : (Jvm.Cond.instanceMethod ({ cls := "OpensAtNineModel", name := "copy", desc := "(IIIII)I" } : Jvm.MethodName)) ∈ XT := XT6 171 rfl rfl
theorem tw1440 : (Jvm.Cond.selects "OpensAtNineModel" ({ cls := "OpensAtNineModel", name := "copy", desc := "(IIIII)I" } : Jvm.MethodName) ({ cls := "OpensAtNineModel", name := "copy", desc := "(IIIII)I" } : Jvm.MethodName)) ∈ XT := XT6 172 rfl rfl
theorem tw1441 : (Jvm.Cond.code ({ cls := "OpensAtNineModel", name := "copy", desc := "(IIIII)I" } : Jvm.MethodName) prog_11_method_82_code (10 : Nat) (Option.some Jvm.ClassFile.FieldType.int)) ∈ XT := XT6 173 rfl rfl
theorem tw1442 : (Jvm.Cond.methodLink "OpensAtNineLaw" (160 : Nat) ({ cls := "OpensAtNineModel", name := "coinsBy", desc := "(IIII)I" } : Jvm.MethodName)) ∈ XT := XT6 174 rfl rfl
theorem tw1443 : (Jvm.Cond.instanceMethod ({ cls := "OpensAtNineModel", name := "coinsBy", desc := "(IIII)I" } : Jvm.MethodName)) ∈ XT := XT6 175 rfl rfl
theorem tw1444 : (Jvm.Cond.selects "OpensAtNineModel" ({ cls := "OpensAtNineModel", name := "coinsBy", desc := "(IIII)I" } : Jvm.MethodName) ({ cls := "OpensAtNineModel", name := "coinsBy", desc := "(IIII)I" } : Jvm.MethodName)) ∈ XT := XT6 176 rfl rfl
theorem tw1445 : (Jvm.Cond.code ({ cls := "OpensAtNineModel", name := "coinsBy", desc := "(IIII)I" } : Jvm.MethodName) prog_11_method_83_code (9 : Nat) (Option.some Jvm.ClassFile.FieldType.int)) ∈ XT := XT6 177 rfl rfl
theorem tw1446 : (Jvm.Cond.methodLink "OpensAtNineModel" (340 : Nat) ({ cls := "OpensAtNineModel", name := "coin", desc := "(IIII)I" } : Jvm.MethodName)) ∈ XT := XT6 178 rfl rfl
theorem tw1447 : (Jvm.Cond.methodLink "OpensAtNineLaw" (164 : Nat) ({ cls := "OpensAtNineModel", name := "taken", desc := "(II)I" } : Jvm.MethodName)) ∈ XT := XT6 179 rfl rfl
theorem tw1448 : (Jvm.Cond.instanceMethod ({ cls := "OpensAtNineModel", name := "taken", desc := "(II)I" } : Jvm.MethodName)) ∈ XT := XT6 180 rfl rfl
theorem tw1449 : (Jvm.Cond.selects "OpensAtNineModel" ({ cls := "OpensAtNineModel", name := "taken", desc := "(II)I" } : Jvm.MethodName) ({ cls := "OpensAtNineModel", name := "taken", desc := "(II)I" } : Jvm.MethodName)) ∈ XT := XT6 181 rfl rfl
theorem tw1450 : (Jvm.Cond.code ({ cls := "OpensAtNineModel", name := "taken", desc := "(II)I" } : Jvm.MethodName) prog_11_method_85_code (4 : Nat) (Option.some Jvm.ClassFile.FieldType.int)) ∈ XT := XT6 182 rfl rfl
theorem tw1451 : (Jvm.Cond.methodLink "OpensAtNineModel" (344 : Nat) ({ cls := "OpensAtNineModel", name := "isUnder", desc := "(II)Z" } : Jvm.MethodName)) ∈ XT := XT6 183 rfl rfl
theorem tw1452 : (Jvm.Cond.static ({ cls := "OpensAtNineModel", name := "isUnder", desc := "(II)Z" } : Jvm.MethodName)) ∈ XT := XT6 184 rfl rfl
theorem tw1453 : (Jvm.Cond.code ({ cls := "OpensAtNineModel", name := "isUnder", desc := "(II)Z" } : Jvm.MethodName) prog_11_method_84_code (2 : Nat) (Option.some Jvm.ClassFile.FieldType.boolean)) ∈ XT := XT6 185 rfl rfl
theorem tw1454 : (Jvm.Cond.fieldLink "java/lang/String" (9 : Nat) "java/lang/String" "value" "[B") ∈ XT := XT6 186 rfl rfl
theorem tw1455 : (Jvm.Cond.fieldLink "java/lang/String" (15 : Nat) "java/lang/String" "coder" "B") ∈ XT := XT6 187 rfl rfl
