/-! throw new NoSuchElementException(text): its constructor names that of RuntimeException by entry 13 of its pool, not 7, so the kit's vx_throwS doesn't take it. These rows follow Stand.ctorThrowS and vx_throwS, with the first link by its own entry, and say less of the cell. -/
def am_nsN : String := "java/util/NoSuchElementException"
def am_ioN : String := "java/lang/IndexOutOfBoundsException"
def am_rtN : String := "java/lang/RuntimeException"
def am_exN : String := "java/lang/Exception"
def am_nx : ByteArray := ⟨#[0x2a, 0x2b, 0xb7, 0x00, 0x0d, 0xb1]⟩
def am_chX : List Cond := Bundle.passSAtoms am_nsN am_rtN 13 am_nx ++ Bundle.chainSAtoms am_rtN [am_exN]
def am_oaX : List Cond := Bundle.throwableAtoms ++ (Bundle.throwableSAtoms ++ (am_chX ++
  [.methodLink "RopeWalk" 166 (Bundle.initS am_nsN), .instantiable am_nsN 6, .castable am_nsN am_nsN, .selects am_nsN Bundle.tFill0 Bundle.tFill0, .selects am_nsN Bundle.tFill Bundle.tFill,
   .lays am_nsN Bundle.tN "cause" "Ljava/lang/Throwable;", .lays am_nsN Bundle.tN "stackTrace" Bundle.steD, .lays am_nsN Bundle.tN "suppressedExceptions" Bundle.listD, .lays am_nsN Bundle.tN "detailMessage" "Ljava/lang/String;",
   .isRef (.static Bundle.tN "UNASSIGNED_STACK" Bundle.steD), .isRef (.static Bundle.tN "SUPPRESSED_SENTINEL" Bundle.listD),
   .fieldLink Bundle.tN 198 Bundle.tN "backtrace" "Ljava/lang/Object;", .lays Bundle.tN Bundle.tN "backtrace" "Ljava/lang/Object;", .lays am_nsN Bundle.tN "backtrace" "Ljava/lang/Object;"]))
theorem nx0 : decode am_nx 0 = .ok (.aload_n 0, 1) := by decide +kernel
theorem nx1 : decode am_nx 1 = .ok (.aload_n 1, 1) := by decide +kernel
theorem nx2 : decode am_nx 2 = .ok (.invokespecial 13, 3) := by decide +kernel
theorem nx5 : decode am_nx 5 = .ok (.return_, 1) := by decide +kernel
theorem nfit1 : Bundle.fit am_nsN = true := by decide +kernel
theorem nfit2 : Bundle.fit am_rtN = true := by decide +kernel
theorem nfit3 : Bundle.fit am_exN = true := by decide +kernel
theorem am_chS {args : Array Value} {s : State} {pl : Platform} (hpl : pl.magicAccessors = ({} : Platform).magicAccessors) {top : MethodId} (htop : s.methodNamed? (Bundle.initS Bundle.tN) = some top) (h : ∀ c ∈ am_chX, c.before args s = true) :
    ∃ (P1 : PassC) (Ps : List PassC), Ps.length = 2 ∧ P1.LinksS pl s ∧ (∀ P, P ∈ Ps → P.LinksS pl s) ∧ s.methodNamed? (Bundle.initS am_nsN) = some P1.m ∧ P1.sup = firstOf top (Ps.map (·.toPassT)) ∧ PassesOn top (Ps.map (·.toPassT)) := by
  obtain ⟨P, L, hm, hs⟩ := PassC.ofS_atoms (args := args) (s := s) hpl (X := am_nsN) (Y := am_rtN) (Bundle.fit_spec nfit1).1 (Bundle.fit_spec nfit2).2 nx0 nx1 nx2 nx5 (fun c hc => h c (List.mem_append_left _ hc))
  obtain ⟨P', Ps, hlen, L', hL, hm', hsup, hpass⟩ := Bundle.chainS (args := args) hpl htop [am_exN] am_rtN nfit2 (fun n hn => by rw [List.mem_singleton.mp hn]; exact nfit3) (fun c hc => h c (List.mem_append_right _ hc))
  refine ⟨P, P' :: Ps, by rw [List.length_cons, hlen]; rfl, L, ?_, hm, Option.some.inj (hs.symm.trans hm'), hsup, hpass⟩
  intro Q hQ
  rcases List.mem_cons.mp hQ with rfl | hQ
  · exact L'
  · exact hL Q hQ
