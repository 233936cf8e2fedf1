/-! ===== laws: whole ones ===== -/
theorem mk_tc_len {ts ts' : List Bool} {q : mk_T} (h : mk_tc ts q = some ts') (k : ts.length ≤ 32) : ts'.length ≤ 32 := by
  obtain ⟨hv, h⟩ := mk_tc_inv h
  rcases h with ⟨c0, c1, c2, rfl⟩ | ⟨c0, r, rfl, rfl⟩ | ⟨c0, c1, c2, b, r, rfl, rfl, c3⟩
  · rw [List.length_cons]; omega
  · exact k
  · simp only [List.length_cons] at k ⊢; omega
theorem mk_ts_cons {ts ts' : List Bool} {q : mk_T} {l : List mk_T} (h : mk_ts ts (q :: l) = some ts') : ∃ t, mk_tc ts q = some t ∧ mk_ts t l = some ts' := by
  unfold mk_ts at h
  cases e : mk_tc ts q with
  | none => rw [e] at h; cases h
  | some t => rw [e] at h; exact ⟨t, rfl, h⟩
theorem mk_xts {N : Nat} {L : Nat → Int} {stop : Nat} (h9 : stop ≤ 960) {ts' : List Bool} : ∀ (l : List mk_T) {n : Nat} {ts : List Bool} {st : List Int} {p : Nat} {M : mj_M}, mk_lt6 (M 9) L → mk_ts ts l = some ts' → mk_okv ts st → ts.length ≤ 32 → mk_sk (M 12) st → mk_at (M 10) p (l.map mk_cd) → p + l.length ≤ stop → ∃ M', F_Laws_worth_b49 N (n + l.length) (nI stop) (nI st.length) 0 (nI p) M = F_Laws_worth_b49 N n (nI stop) (nI (mk_ev L st l).length) 0 (nI (p + l.length)) M' ∧ (∀ c, c ≠ 12 → M' c = M c) ∧ mk_sk (M' 12) (mk_ev L st l) ∧ mk_okv ts' (mk_ev L st l) := by
  intro l
  induction l with
  | nil =>
    intro n ts st p M hL ht ho h32 hs hc hp
    have e : ts = ts' := Option.some.inj ht
    subst e
    exact ⟨M, rfl, fun _ _ => rfl, hs, ho⟩
  | cons q l ih =>
    intro n ts st p M hL ht ho h32 hs hc hp
    obtain ⟨t, ht1, ht2⟩ := mk_ts_cons ht
    rw [List.length_cons] at hp
    obtain ⟨M1, e1, f1, s1⟩ := mk_xt (N := N) (n := n + l.length) (stop := stop) hL ht1 ho h32 hs hc.1 (by omega) h9
    obtain ⟨M2, e2, f2, s2, o2⟩ := ih (n := n) (p := p + 1) (M := M1) (by rw [f1 9 (by omega)]; exact hL) ht2 (mk_t1_ok hL ht1 ho) (mk_tc_len ht1 h32) s1 (by rw [f1 10 (by omega)]; exact hc.2) (by omega)
    refine ⟨M2, ?_, fun c hc => (f2 c hc).trans (f1 c hc), s2, o2⟩
    rw [List.length_cons, show n + (l.length + 1) = n + l.length + 1 by omega, e1, e2, show p + 1 + l.length = p + (l.length + 1) by omega]
    rfl
theorem mk_xps {N : Nat} {stop : Nat} (h9 : stop ≤ 960) {top : Int32} {M : mj_M} : ∀ (l : List Nat) {n p : Nat}, (∀ a, a ∈ l → nI a &&& (127 : Int32) ≠ 121) → mk_at (M 10) p l → p + l.length ≤ stop → F_Laws_worth_b49 N (n + l.length) (nI stop) top 1 (nI p) M = F_Laws_worth_b49 N n (nI stop) top 1 (nI (p + l.length)) M := by
  intro l
  induction l with
  | nil => intro n p _ _ _; rfl
  | cons a l ih =>
    intro n p ha hc hp
    rw [List.length_cons] at hp ⊢
    rw [show n + (l.length + 1) = n + l.length + 1 by omega, F_Laws_worth_b49]
    simp only [mj_lt]
    rw [if_neg (nI_ge (by omega) (by omega)), nw_ck (by omega) (by omega), nI_clamp (by omega), hc.1, if_neg (by decide +kernel), if_neg (ha a List.mem_cons_self), nI_1, ih (fun b hb => ha b (List.mem_cons_of_mem _ hb)) hc.2 (by omega), show p + 1 + l.length = p + (l.length + 1) by omega]
theorem mk_at_app {f : Nat → Int32} : ∀ (l m : List Nat) (p : Nat), mk_at f p (l ++ m) ↔ mk_at f p l ∧ mk_at f (p + l.length) m
  | [], m, p => by simp [mk_at]
  | a :: l, m, p => by
    rw [List.cons_append, mk_at, mk_at, mk_at_app l m (p + 1), List.length_cons, show p + 1 + l.length = p + (l.length + 1) by omega, and_assoc]
theorem mk_ts_cd {l : List mk_T} : ∀ {ts ts' : List Bool}, mk_ts ts l = some ts' → ∀ a, a ∈ l.map mk_cd → nI a &&& (127 : Int32) ≠ 121 := by
  induction l with
  | nil => intro _ _ _ a ha; cases ha
  | cons q l ih =>
    intro ts ts' h a ha
    obtain ⟨t, h1, h2⟩ := mk_ts_cons h
    rcases List.mem_cons.mp ha with rfl | ha
    · obtain ⟨hv, h⟩ := mk_tc_inv h1
      have h12 : q.1 < 12 := by omega
      rw [(mk_cdv h12 hv).1]
      exact (mk_sgs q.1 h12).2.2.1
    · exact ih h2 a ha
theorem mk_one {b : Bool} {st : List Int} (h : mk_okv [b] st) : ∃ a, st = [a] ∧ -1000000 ≤ a ∧ a ≤ 1000000 := by
  obtain ⟨a, s, rfl, _, h2, h3, h4⟩ := mk_okv1 h
  cases s with
  | nil => exact ⟨a, rfl, h2, h3⟩
  | cons _ _ => exact h4.elim
theorem mk_xyield {N n stop p : Nat} {M : mj_M} {v : Int} (h9 : stop ≤ 960) (hp : p < stop) (hc : M 10 p = nI 121) (hs : M 12 0 = iI v) : F_Laws_worth_b49 N (n + 1) (nI stop) (nI 1) 0 (nI p) M = some (iI v, M) := by
  rw [F_Laws_worth_b49]
  simp only [mj_lt]
  rw [if_neg (nI_ge (by omega) (by omega)), nw_ck (by omega) (by omega), nI_clamp (by omega), hc, show nI 121 &&& (127 : Int32) = 121 by decide +kernel, if_pos trivial, if_neg (by decide +kernel), if_neg (by decide +kernel), if_neg (by decide +kernel), if_pos rfl]
  unfold F_Laws_worth_b150
  rw [if_neg (by decide +kernel), show nI 1 - 1 = nI 0 from rfl, nw_ck (by omega) (by omega), nI_clamp (by omega), hs]
theorem mk_xwhen {N n stop p : Nat} {M : mj_M} {v : Int} (h9 : stop ≤ 960) (hp : p < stop) (hc : M 10 p = nI 63) (hs : M 12 0 = iI v) (hv : -1000000 ≤ v ∧ v ≤ 1000000) : F_Laws_worth_b49 N (n + 1) (nI stop) (nI 1) 0 (nI p) M = F_Laws_worth_b49 N n (nI stop) (nI 0) (if v = 0 then 1 else 0) (nI (p + 1)) M := by
  rw [F_Laws_worth_b49]
  simp only [mj_lt]
  rw [if_neg (nI_ge (by omega) (by omega)), nw_ck (by omega) (by omega), nI_clamp (by omega), hc, show nI 63 &&& (127 : Int32) = 63 by decide +kernel, if_pos trivial, if_neg (by decide +kernel), if_neg (by decide +kernel), if_neg (by decide +kernel), if_neg (by decide +kernel), if_neg (by decide +kernel), if_pos rfl, show nI 1 + (-1) = nI 0 from rfl, nw_ck (by omega) (by omega), nI_clamp (by omega), hs]; simp only [show (iI v = 0) = (v = 0) from iI_eq (b := 0) (by omega) (by omega) (by omega) (by omega)]; rw [nI_1]
  by_cases c : v = 0
  · rw [if_pos c, if_pos c]
  · rw [if_neg c, if_neg c]
theorem mk_xpass {N n stop p : Nat} {M : mj_M} {top : Int32} (h9 : stop ≤ 960) (hp : p < stop) (hc : M 10 p = nI 121) : F_Laws_worth_b49 N (n + 1) (nI stop) top 1 (nI p) M = F_Laws_worth_b49 N n (nI stop) top 0 (nI (p + 1)) M := by
  rw [F_Laws_worth_b49]
  simp only [mj_lt]
  rw [if_neg (nI_ge (by omega) (by omega)), nw_ck (by omega) (by omega), nI_clamp (by omega), hc, show nI 121 &&& (127 : Int32) = 121 by decide +kernel, if_neg (by decide +kernel), if_pos rfl, nI_1]
/-- one clause's sum, from an empty stack to its end -/
theorem mk_xsum {N n stop p : Nat} {L : Nat → Int} {l : List mk_T} {M : mj_M} (h9 : stop ≤ 960) (hL : mk_lt6 (M 9) L) (ht : mk_ts [] l = some [false]) (hc : mk_at (M 10) p (l.map mk_cd ++ [121])) (hp : p + l.length < stop) : ∃ M', F_Laws_worth_b49 N (n + l.length + 1) (nI stop) (nI 0) 0 (nI p) M = some (iI (mk_val L l), M') ∧ ∀ c, c ≠ 12 → M' c = M c := by
  rw [mk_at_app] at hc
  obtain ⟨M1, e1, f1, s1, o1⟩ := mk_xts (N := N) (n := n + 1) (L := L) h9 l (ts := []) (st := []) hL ht trivial (by simp) trivial hc.1 (by omega)
  obtain ⟨a, ea, ha, ha'⟩ := mk_one o1
  refine ⟨M1, ?_, f1⟩
  rw [show n + l.length + 1 = n + 1 + l.length by omega]
  refine e1.trans ?_
  have hv : mk_val L l = a := by unfold mk_val; rw [ea]; rfl
  rw [ea] at s1 ⊢
  rw [hv]
  refine mk_xyield h9 hp ?_ s1.1
  have := hc.2.1
  rw [List.length_map] at this
  rw [f1 10 (by omega)]
  exact this
theorem mk_xcs {N : Nat} {L : Nat → Int} : ∀ (C : List mk_C) {n p : Nat} {M : mj_M}, (∀ q, q ∈ C → mk_wc q) → mk_lt6 (M 9) L → mk_at (M 10) p (mk_en C) → p + (mk_en C).length ≤ 960 → ∃ M', F_Laws_worth_b49 N (n + (mk_en C).length + 1) (nI (p + (mk_en C).length)) (nI 0) 0 (nI p) M = some (iI (mk_wo L C), M') ∧ ∀ c, c ≠ 12 → M' c = M c := by
  intro C
  induction C with
  | nil =>
    intro n p M _ _ _ _
    refine ⟨M, ?_, fun _ _ => rfl⟩
    rw [F_Laws_worth_b49, if_pos (show nI (p + (mk_en []).length) ≤ nI p from Int32.le_refl _)]
    rfl
  | cons q C ih =>
    intro n p M hw hL hc hp
    obtain ⟨w1, w2⟩ := hw q List.mem_cons_self
    have hen : mk_en (q :: C) = mk_ec q ++ mk_en C := rfl
    rw [hen, mk_at_app] at hc
    rw [hen, List.length_append] at hp ⊢
    by_cases c : q.1 = []
    · have e : mk_ec q = q.2.map mk_cd ++ [121] := by unfold mk_ec; rw [if_pos c]; rfl
      have e' : (mk_ec q).length = q.2.length + 1 := by rw [e, List.length_append, List.length_map]; rfl
      rw [e] at hc
      obtain ⟨M1, e1, f1⟩ := mk_xsum (N := N) (n := n + 1 + (mk_en C).length) (stop := p + ((mk_ec q).length + (mk_en C).length)) (by omega) hL w2 hc.1 (by omega)
      refine ⟨M1, ?_, f1⟩
      rw [show n + ((mk_ec q).length + (mk_en C).length) + 1 = n + 1 + (mk_en C).length + q.2.length + 1 by omega, e1]
      rw [mk_wo, if_pos (Or.inl c)]
    · have wt : mk_ts [] q.1 = some [true] := w1.resolve_left c
      have e : mk_ec q = q.1.map mk_cd ++ ([63] ++ (q.2.map mk_cd ++ [121])) := by unfold mk_ec; rw [if_neg c]; simp
      have e' : (mk_ec q).length = q.1.length + (q.2.length + 2) := by rw [e]; simp
      rw [e] at hc
      obtain ⟨hc1, hc2⟩ := hc
      rw [mk_at_app] at hc1
      obtain ⟨ht, h6, hsu⟩ := hc1
      rw [List.length_map] at h6 hsu
      have hsu : mk_at (M 10) (p + q.1.length + 1) (q.2.map mk_cd ++ [121]) := hsu
      obtain ⟨M1, e1, f1, s1, o1⟩ := mk_xts (N := N) (n := n + (q.2.length + 2 + (mk_en C).length + 1)) (L := L) (stop := p + ((mk_ec q).length + (mk_en C).length)) (by omega) q.1 (ts := []) (st := []) hL wt trivial (by simp) trivial ht (by omega)
      obtain ⟨a, ea, ha, ha'⟩ := mk_one o1
      have hv : mk_val L q.1 = a := by unfold mk_val; rw [ea]; rfl
      have s0 : M1 12 0 = iI a := by rw [ea] at s1; exact s1.1
      have E1 : F_Laws_worth_b49 N (n + ((mk_ec q).length + (mk_en C).length) + 1) (nI (p + ((mk_ec q).length + (mk_en C).length))) (nI 0) 0 (nI p) M = F_Laws_worth_b49 N (n + (q.2.length + 1 + (mk_en C).length + 1)) (nI (p + ((mk_ec q).length + (mk_en C).length))) (nI 0) (if a = 0 then 1 else 0) (nI (p + q.1.length + 1)) M1 := by
        rw [show n + ((mk_ec q).length + (mk_en C).length) + 1 = n + (q.2.length + 2 + (mk_en C).length + 1) + q.1.length by omega]
        refine e1.trans ?_
        rw [ea, show n + (q.2.length + 2 + (mk_en C).length + 1) = n + (q.2.length + 1 + (mk_en C).length + 1) + 1 by omega]
        exact mk_xwhen (by omega) (by omega) (by rw [f1 10 (by omega)]; exact h6) s0 ⟨ha, ha'⟩
      rw [E1]
      by_cases d : a = 0
      · rw [if_pos d]
        rw [mk_at_app] at hsu
        have E2 := mk_xps (N := N) (stop := p + ((mk_ec q).length + (mk_en C).length)) (by omega) (top := nI 0) (M := M1) (q.2.map mk_cd) (n := n + (1 + (mk_en C).length + 1)) (p := p + q.1.length + 1) (mk_ts_cd w2) (by rw [f1 10 (by omega)]; exact hsu.1) (by rw [List.length_map]; omega)
        rw [List.length_map] at E2
        have E3 := mk_xpass (N := N) (n := n + ((mk_en C).length + 1)) (stop := p + ((mk_ec q).length + (mk_en C).length)) (p := p + q.1.length + 1 + q.2.length) (M := M1) (top := nI 0) (by omega) (by omega) (by rw [f1 10 (by omega)]; have := hsu.2.1; rw [List.length_map] at this; exact this)
        obtain ⟨M2, E4, f2⟩ := ih (n := n) (p := p + (mk_ec q).length) (M := M1) (fun r hr => hw r (List.mem_cons_of_mem _ hr)) (by rw [f1 9 (by omega)]; exact hL) (by rw [f1 10 (by omega), e]; exact hc2) (by omega)
        refine ⟨M2, ?_, fun c hc => (f2 c hc).trans (f1 c hc)⟩
        rw [show n + (q.2.length + 1 + (mk_en C).length + 1) = n + (1 + (mk_en C).length + 1) + q.2.length by omega, E2, show n + (1 + (mk_en C).length + 1) = n + ((mk_en C).length + 1) + 1 by omega, E3, show n + ((mk_en C).length + 1) = n + (mk_en C).length + 1 by omega, show p + q.1.length + 1 + q.2.length + 1 = p + (mk_ec q).length by omega, ← Nat.add_assoc, E4]
        rw [mk_wo, if_neg (by rw [hv]; rintro (h | h) <;> contradiction)]
      · rw [if_neg d]
        obtain ⟨M2, E4, f2⟩ := mk_xsum (N := N) (n := n + 1 + (mk_en C).length) (stop := p + ((mk_ec q).length + (mk_en C).length)) (p := p + q.1.length + 1) (M := M1) (by omega) (by rw [f1 9 (by omega)]; exact hL) w2 (by rw [f1 10 (by omega)]; exact hsu) (by omega)
        refine ⟨M2, ?_, fun c hc => (f2 c hc).trans (f1 c hc)⟩
        rw [show n + (q.2.length + 1 + (mk_en C).length + 1) = n + 1 + (mk_en C).length + q.2.length + 1 by omega, E4]
        rw [mk_wo, if_pos (Or.inr (by rw [hv]; exact d))]
theorem mk_mts {N : Nat} {L : Nat → Int} {b to : Nat} (h9 : 520 * b + to ≤ 2600) {ts' : List Bool} : ∀ (l : List mk_T) {n : Nat} {ts : List Bool} {st : List Int} {p : Nat} {M : mj_M}, mk_lt6 (M 57) L → mk_ts ts l = some ts' → mk_okv ts st → ts.length ≤ 32 → mk_sk (M 58) st → mk_tk (M 50) (M 51) p l → p + l.length ≤ 520 * b + to → ∃ M', F_M_workOut_b12 N (n + l.length) (nI b) (nI to) (nI st.length) (nI p) M = F_M_workOut_b12 N n (nI b) (nI to) (nI (mk_ev L st l).length) (nI (p + l.length)) M' ∧ (∀ c, c ≠ 58 → M' c = M c) ∧ mk_sk (M' 58) (mk_ev L st l) ∧ mk_okv ts' (mk_ev L st l) := by
  intro l
  induction l with
  | nil =>
    intro n ts st p M hL ht ho h32 hs hc hp
    have e : ts = ts' := Option.some.inj ht
    subst e
    exact ⟨M, rfl, fun _ _ => rfl, hs, ho⟩
  | cons q l ih =>
    intro n ts st p M hL ht ho h32 hs hc hp
    obtain ⟨t, ht1, ht2⟩ := mk_ts_cons ht
    rw [List.length_cons] at hp
    obtain ⟨M1, e1, f1, s1⟩ := mk_mt (N := N) (n := n + l.length) hL ht1 ho h32 hs hc.1 hc.2.1 (by omega) h9
    obtain ⟨M2, e2, f2, s2, o2⟩ := ih (n := n) (p := p + 1) (M := M1) (by rw [f1 57 (by omega)]; exact hL) ht2 (mk_t1_ok hL ht1 ho) (mk_tc_len ht1 h32) s1 (by rw [f1 50 (by omega), f1 51 (by omega)]; exact hc.2.2) (by omega)
    refine ⟨M2, ?_, fun c hc => (f2 c hc).trans (f1 c hc), s2, o2⟩
    rw [List.length_cons, show n + (l.length + 1) = n + l.length + 1 by omega, e1, e2, show p + 1 + l.length = p + (l.length + 1) by omega]
    rfl
theorem mk_mwo {N : Nat} {L : Nat → Int} {b p : Nat} {c : Bool} {l : List mk_T} {M : mj_M} (hN : l.length < N) (h9 : 520 * b + (p + l.length) ≤ 2600) (hL : mk_lt6 (M 57) L) (ht : mk_ts [] l = some [c]) (hc : mk_tk (M 50) (M 51) (520 * b + p) l) : ∃ M', F_M_workOut N (nI b) (nI p) (nI (p + l.length)) M = some (iI (mk_val L l), M') ∧ (∀ c, c ≠ 58 → M' c = M c) ∧ -1000000 ≤ mk_val L l ∧ mk_val L l ≤ 1000000 := by
  obtain ⟨M1, e1, f1, s1, o1⟩ := mk_mts (N := N) (n := N - l.length) (L := L) h9 l (ts := []) (st := []) hL ht trivial (by simp) trivial hc (by omega)
  obtain ⟨a, ea, ha, ha'⟩ := mk_one o1
  have hv : mk_val L l = a := by unfold mk_val; rw [ea]; rfl
  refine ⟨M1, ?_, f1, by omega, by omega⟩
  unfold F_M_workOut
  simp only [mj_lt]
  rw [show (520 : Int32) * nI b + nI p = nI (520 * b + p) by rw [nl_520, pk_mul, nI_add], show N - l.length + l.length = N by omega] at *
  refine e1.trans ?_
  rw [ea] at s1 ⊢
  obtain ⟨n, hn⟩ : ∃ n, N - l.length = n + 1 := ⟨N - l.length - 1, by omega⟩
  rw [hn, F_M_workOut_b12, show (520 : Int32) * nI b + nI (p + l.length) = nI (520 * b + p + l.length) by rw [nl_520, pk_mul, nI_add, Nat.add_assoc], if_pos (Int32.le_refl _), hv]
  exact congrArg some (congrArg (·, M1) s1.1)
theorem mk_mcs {N : Nat} {L : Nat → Int} {b : Nat} (hb : b < 5) : ∀ (C : List mk_C) {n c p : Nat} {M : mj_M}, (∀ q, q ∈ C → mk_wc q) → mk_lt6 (M 57) L → mk_cl M (520 * b) C c p → M 53 b = nI (c + C.length - 140 * b) → 140 * b ≤ c → c + C.length ≤ 140 * b + 140 → p + mk_nt C ≤ 520 → mk_nt C < N → ∃ M', F_M_worthOf_b6 N (n + C.length + 1) (nI b) (nI c) M = some (iI (mk_wo L C), M') ∧ ∀ c, c ≠ 58 → M' c = M c := by
  intro C
  induction C with
  | nil =>
    intro n c p M _ _ _ h53 hc1 hc2 _ _
    refine ⟨M, ?_, fun _ _ => rfl⟩
    rw [F_M_worthOf_b6, nw_ck hb (by omega), nI_clamp (by omega), h53, nl_140, pk_mul, nI_add, show 140 * b + (c + ([] : List mk_C).length - 140 * b) = c by rw [List.length_nil]; omega, if_pos (Int32.le_refl _)]
    rfl
  | cons q C ih =>
    intro n c p M hw hL hc h53 hc1 hc2 hp hN
    obtain ⟨w1, w2⟩ := hw q List.mem_cons_self
    obtain ⟨e4, e5, e6, t1, t2, hr⟩ := hc
    have hnt : mk_nt (q :: C) = q.1.length + q.2.length + mk_nt C := rfl
    rw [hnt] at hp hN
    rw [List.length_cons] at h53 hc2 ⊢
    rw [show n + (C.length + 1) + 1 = n + C.length + 1 + 1 by omega, F_M_worthOf_b6]
    rw [nw_ck hb (by omega), nI_clamp (show b < 2 ^ 31 by omega), h53, nl_140, pk_mul, nI_add, show 140 * b + (c + (C.length + 1) - 140 * b) = c + (C.length + 1) by omega, if_neg (nI_ge (by omega) (by omega))]
    simp only [nw_ck (show c < 700 by omega) (show 700 < 2 ^ 31 by omega)]
    rw [nI_clamp (show c < 2 ^ 31 by omega), e4, e5]
    have h57 : ∀ M1 : mj_M, (∀ c, c ≠ 58 → M1 c = M c) → ∃ M', F_M_worthOf_b57 N (nI b) (nI c) M1 = some (iI (mk_val L q.2), M') ∧ ∀ c, c ≠ 58 → M' c = M c := by
      intro M1 f1
      unfold F_M_worthOf_b57
      simp only [nw_ck (show c < 700 by omega) (show 700 < 2 ^ 31 by omega)]
      rw [nI_clamp (show c < 2 ^ 31 by omega), f1 55 (by omega), f1 56 (by omega), e5, e6]
      obtain ⟨M2, E2, f2, -⟩ := mk_mwo (N := N) (L := L) (b := b) (p := p + q.1.length) (l := q.2) (M := M1) (by omega) (by omega) (by rw [f1 57 (by omega)]; exact hL) w2 (by rw [f1 50 (by omega), f1 51 (by omega), ← Nat.add_assoc]; exact t2)
      rw [E2]
      exact ⟨M2, rfl, fun c hc => (f2 c hc).trans (f1 c hc)⟩
    simp (disch := omega) only [nw_eq]
    by_cases c0 : q.1 = []
    · rw [if_pos (by rw [c0]; simp)]
      obtain ⟨M', E, f⟩ := h57 M (fun _ _ => rfl)
      refine ⟨M', E.trans ?_, f⟩
      rw [mk_wo, if_pos (Or.inl c0)]
    · have wt : mk_ts [] q.1 = some [true] := w1.resolve_left c0
      have : 0 < q.1.length := List.length_pos_iff.mpr c0
      rw [if_neg (by omega)]
      obtain ⟨M1, E1, f1, v1, v2⟩ := mk_mwo (N := N) (L := L) (b := b) (p := p) (l := q.1) (M := M) (by omega) (by omega) hL wt t1
      rw [E1]
      simp only [Option.bind_some]
      simp only [show (iI (mk_val L q.1) = 0) = (mk_val L q.1 = 0) from iI_eq (b := 0) (by omega) (by omega) (by omega) (by omega)]
      by_cases d : mk_val L q.1 = 0
      · rw [if_pos d, nI_1]
        obtain ⟨M2, E2, f2⟩ := ih (n := n) (c := c + 1) (p := p + q.1.length + q.2.length) (M := M1) (fun r hr => hw r (List.mem_cons_of_mem _ hr)) (by rw [f1 57 (by omega)]; exact hL) (mk_cl_cg (f1 50 (by omega)) (f1 51 (by omega)) (f1 54 (by omega)) (f1 55 (by omega)) (f1 56 (by omega)) _ _ _ hr) (by rw [f1 53 (by omega), h53]; congr 1; omega) (by omega) (by omega) (by omega) (by omega)
        refine ⟨M2, E2.trans ?_, fun c hc => (f2 c hc).trans (f1 c hc)⟩
        rw [mk_wo, if_neg (by rintro (h | h) <;> contradiction)]
      · rw [if_neg d]
        obtain ⟨M', E, f⟩ := h57 M1 f1
        refine ⟨M', E.trans ?_, f⟩
        rw [mk_wo, if_pos (Or.inr d)]
theorem mk_en_len : ∀ (C : List mk_C), (∀ q, q ∈ C → mk_wc q) → mk_nt C + C.length ≤ (mk_en C).length ∧ C.length ≤ mk_nt C
  | [], _ => by simp [mk_nt, mk_en]
  | q :: C, h => by
    have := mk_en_len C (fun r hr => h r (List.mem_cons_of_mem _ hr))
    have h2 := (h q List.mem_cons_self).2
    have h3 : q.2 ≠ [] := by intro e; rw [e] at h2; cases h2
    have h4 := List.length_pos_iff.mpr h3
    have e1 : mk_en (q :: C) = mk_ec q ++ mk_en C := rfl
    have e2 : mk_nt (q :: C) = q.1.length + q.2.length + mk_nt C := rfl
    have e3 : q.1.length + q.2.length + 1 ≤ (mk_ec q).length := by
      unfold mk_ec
      by_cases c : q.1 = []
      · rw [if_pos c, c]; simp
      · rw [if_neg c]; simp; omega
    rw [e1, e2, List.length_append, List.length_cons]
    omega
