/-! ===== Station: contracts that read ===== -/
abbrev gV : Type := (Nat → Nat) × (Nat → Int32) × (Nat → Int32) × (Nat → Nat) × (Nat → Nat → Int32)
def vDoc (V : gV) (x : Nat) : Nat := V.1 x
def vLen (V : gV) (x : Nat) : Int32 := V.2.1 x
def vFil (V : gV) (x : Nat) : Int32 := V.2.2.1 x
def vQ (V : gV) (x : Nat) : Nat := V.2.2.2.1 x
def vVec (V : gV) (x : Nat) : Nat → Int32 := V.2.2.2.2 x
def VA (h : gHp) (V : gV) (x : Nat) : Prop := h x = some (gO 4 [.int (nI (vDoc V x)), .int (vLen V x), .int (vFil V x), .ref (vQ V x)]) ∧ h (vQ V x) = some (gI 4 (vVec V x)) ∧ vDoc V x < 10
def vMk (V : gV) (x : Nat) : Bool := decide (vLen V x = -1)
def vBy (V : gV) (x : Nat) : Int32 := byI (vLen V x)
def vRp (V : gV) (x y : Nat) : Bool := decide (vDoc V x = vDoc V y) && cov4 (vVec V x) (vVec V y)
def vCm (V : gV) (x y : Nat) : Int32 := lxs (vVec V x) (vVec V y) (cmpI (nI (vDoc V x)) (nI (vDoc V y))) 4
def vHb (V : gV) (d : Int32) (x : Nat) : Bool := decide (nI (vDoc V x) = d) && decide (vLen V x ≠ -1)
/-- whether what a table says of station o covers version x -/
def tCv (V : gV) (f : Nat → Int32) (o x : Nat) : Bool := cov4 (fun j => f ((o * 10 + vDoc V x) * 4 + j)) (vVec V x)
theorem take_s {L : List Nat} {j x : Nat} (hx : L[j]? = some x) : L.take (j + 1) = L.take j ++ [x] := by
  rw [List.take_add_one, hx]; rfl
theorem get_ex {L : List Nat} {j : Nat} (hj : j < L.length) : ∃ x, L[j]? = some x := ⟨L[j], List.getElem?_eq_getElem hj⟩
def SV (G : gG) (V : gV) (h : gHp) (s i a e : Nat) (L : List Nat) (t c : Nat) (f : Nat → Int32) : Prop := h s = some (gO 2 [.int (nI i), .ref a, .ref t]) ∧ LV G h a e L ∧ TV h t c f ∧ i < 4 ∧ ∀ x ∈ L, VA h V x
section Sta
variable {G : gG} {l : Launch} {h : gHp} {sz : Nat} {V : gV} {s i a e t c : Nat} {L : List Nat} {f : Nat → Int32} {x : Nat}
theorem c_S_ownCounter (hV : SV G V h s i a e L t c f) {d : Nat} (hd : d < 10) : SM G l 3 y_S_ownCounter M_S_ownCounter [.ref s, .int (nI d)] h sz 0 0 (qR (.int (f ((i * 10 + d) * 4 + i))) h sz) := by
  obtain ⟨hs, hL, hT, hi, hA⟩ := hV
  have ht := hT.1
  refine SM.of (lv0 := [some (.ref s), some (.int (nI d))]) (by decide +kernel) rfl ⟨rfl, rfl⟩ rfl (by simp [Value.category]) (Nat.le_of_ble_eq_true rfl) ?_
  refine gw_al0 d_S_ownCounter_0 ?_
  refine gw_get d_S_ownCounter_1 (by assumption) (by rfl) ?_
  refine gw_al0 d_S_ownCounter_4 ?_
  refine gw_get d_S_ownCounter_5 (by assumption) (by rfl) ?_
  refine gw_il1 d_S_ownCounter_8 ?_
  refine gw_al0 d_S_ownCounter_9 ?_
  refine gw_get d_S_ownCounter_10 (by assumption) (by rfl) ?_
  refine gw_rV3 d_S_ownCounter_13 cs_S_ownCounter_13 ht (c_T_counterAt hT hi hd hi) ?_
  exact gw_iret d_S_ownCounter_16 rfl (Nat.le_refl _) (Nat.le_refl _) ⟨rfl, rfl, rfl⟩
theorem c_S_lacks (hV : SV G V h s i a e L t c f) (hx : VA h V x) : SM G l 3 y_S_lacks M_S_lacks [.ref s, .ref x] h sz 0 0 (qR (.int (b2i (!tCv V f i x))) h sz) := by
  obtain ⟨hs, hL, hT, hi, hA⟩ := hV
  have ht := hT.1
  refine SM.of (lv0 := [some (.ref s), some (.ref x)]) (by decide +kernel) rfl ⟨rfl, rfl⟩ rfl (by simp [Value.category]) (Nat.le_of_ble_eq_true rfl) ?_
  refine gw_al0 d_S_lacks_0 ?_
  refine gw_get d_S_lacks_1 (by assumption) (by rfl) ?_
  refine gw_al0 d_S_lacks_4 ?_
  refine gw_get d_S_lacks_5 (by assumption) (by rfl) ?_
  refine gw_al1 d_S_lacks_8 ?_
  refine gw_rV2 d_S_lacks_9 cs_S_lacks_9 ht (c_T_covers hT hi hx.2.2 hx.1 hx.2.1) ?_
  refine gw_ifne d_S_lacks_12 (fun c_12 => ?_) (fun c_12 => ?_)
  · refine gw_push d_S_lacks_19 ?_
    exact gw_zret d_S_lacks_20 rfl (by decide) (Nat.le_refl _) (Nat.le_refl _) ⟨by first | (rw [show tCv V f i x = true from (b2i_ne0 _).mp c_12]; rfl) | (rw [show tCv V f i x = false from (b2i_eq0 _).mp c_12]; rfl), rfl, rfl⟩
  · refine gw_push d_S_lacks_15 ?_
    refine gw_goto d_S_lacks_16 ?_
    exact gw_zret d_S_lacks_20 rfl (by decide) (Nat.le_refl _) (Nat.le_refl _) ⟨by first | (rw [show tCv V f i x = true from (b2i_ne0 _).mp c_12]; rfl) | (rw [show tCv V f i x = false from (b2i_eq0 _).mp c_12]; rfl), rfl, rfl⟩
theorem c_S_allHave (hV : SV G V h s i a e L t c f) (hx : VA h V x) : SM G l 3 y_S_allHave M_S_allHave [.ref s, .ref x] h sz 0 0 (qR (.int (b2i (tCv V f 0 x && (tCv V f 1 x && (tCv V f 2 x && tCv V f 3 x))))) h sz) := by
  obtain ⟨hs, hL, hT, hi, hA⟩ := hV
  have ht := hT.1
  have hall : ∀ b : Bool, (b = true ↔ ∀ o, o < 4 → tCv V f o x = true) → (tCv V f 0 x && (tCv V f 1 x && (tCv V f 2 x && tCv V f 3 x))) = b := by
    intro b hb
    rw [Bool.eq_iff_iff, hb]
    simp only [Bool.and_eq_true]
    constructor
    · rintro ⟨h0, h1, h2, h3⟩ j hj
      match j, hj with
      | 0, _ => exact h0
      | 1, _ => exact h1
      | 2, _ => exact h2
      | 3, _ => exact h3
    · intro q
      exact ⟨q 0 (by omega), q 1 (by omega), q 2 (by omega), q 3 (by omega)⟩
  refine SM.of (lv0 := [some (.ref s), some (.ref x), none]) (by decide +kernel) rfl ⟨rfl, rfl⟩ rfl (by simp [Value.category]) (Nat.le_of_ble_eq_true rfl) ?_
  have loop : ∀ m j, j ≤ 4 → 4 - j < m → (∀ o, o < j → tCv V f o x = true) → GM G l 3 0 0 (qR (.int (b2i (tCv V f 0 x && (tCv V f 1 x && (tCv V f 2 x && tCv V f 3 x))))) h sz) M_S_allHave 2 [some (.ref s), some (.ref x), some (.int (nI j))] [] h sz 0 0 := by
    intro m
    induction m with
    | zero => intro j _ hj; exact absurd hj (Nat.not_lt_zero _)
    | succ m ih =>
      intro j hj hm hI
      refine gw_il2 d_S_allHave_2 ?_
      refine gw_push d_S_allHave_3 ?_
      refine gw_icge d_S_allHave_4 (fun c_4 => ?_) (fun c_4 => ?_)
      · refine gw_push d_S_allHave_27 ?_
        have q4 := n_le (a := 4) c_4 (by decide) (by omega); obtain rfl : j = 4 := (by omega); exact gw_zret d_S_allHave_28 rfl (by decide) (Nat.le_refl _) (Nat.le_refl _) ⟨by rw [hall true ⟨fun _ => hI, fun _ => rfl⟩]; rfl, rfl, rfl⟩
      · refine gw_al0 d_S_allHave_7 ?_
        refine gw_get d_S_allHave_8 (by assumption) (by rfl) ?_
        refine gw_il2 d_S_allHave_11 ?_
        refine gw_al1 d_S_allHave_12 ?_
        have hj4 := n_nle (a := 4) c_4 (by decide) (by omega); refine gw_rV2 d_S_allHave_13 cs_S_allHave_13 ht (c_T_covers hT hj4 hx.2.2 hx.1 hx.2.1) ?_
        refine gw_ifne d_S_allHave_16 (fun c_16 => ?_) (fun c_16 => ?_)
        · refine gw_ii2 d_S_allHave_21 (by rw [n_s]; exact gw_goto d_S_allHave_24 (ih (j + 1) (by omega) (by omega) (lt_s hI ((b2i_ne0 _).mp c_16))))
        · refine gw_push d_S_allHave_19 ?_
          exact gw_zret d_S_allHave_20 rfl (by decide) (Nat.le_refl _) (Nat.le_refl _) ⟨by rw [hall false ⟨fun q => (by cases q), fun q => by have z := q j hj4; rw [show tCv V f j x = false from (b2i_eq0 _).mp c_16] at z; exact z⟩]; rfl, rfl, rfl⟩
  refine gw_push d_S_allHave_0 ?_
  refine gw_is2 d_S_allHave_1 ?_
  exact loop 5 0 (by omega) (by omega) lt_0
/-- a destination that lacks x, as far as this station knows -/
def vLk (V : gV) (f : Nat → Int32) (i : Nat) (ds : Int32) (x o : Nat) : Bool := decide (o ≠ i) && (decide ((ds >>> (nI o &&& 31)) &&& 1 = 1) && !tCv V f o x)
def vLkA (V : gV) (f : Nat → Int32) (i : Nat) (ds : Int32) (x : Nat) : Bool := vLk V f i ds x 0 || (vLk V f i ds x 1 || (vLk V f i ds x 2 || vLk V f i ds x 3))
theorem vLkA_of {V : gV} {f : Nat → Int32} {i : Nat} {ds : Int32} {x : Nat} (b : Bool) (hb : b = true ↔ ∃ o, o < 4 ∧ vLk V f i ds x o = true) : vLkA V f i ds x = b := by
  unfold vLkA
  rw [Bool.eq_iff_iff, hb]
  simp only [Bool.or_eq_true]
  constructor
  · rintro (h0 | h1 | h2 | h3)
    · exact ⟨0, by omega, h0⟩
    · exact ⟨1, by omega, h1⟩
    · exact ⟨2, by omega, h2⟩
    · exact ⟨3, by omega, h3⟩
  · rintro ⟨j, hj, q⟩
    match j, hj with
    | 0, _ => exact Or.inl q
    | 1, _ => exact Or.inr (Or.inl q)
    | 2, _ => exact Or.inr (Or.inr (Or.inl q))
    | 3, _ => exact Or.inr (Or.inr (Or.inr q))
theorem c_S_knowsLackAmong (hV : SV G V h s i a e L t c f) (hx : VA h V x) {ds : Int32} : SM G l 3 y_S_knowsLackAmong M_S_knowsLackAmong [.ref s, .int ds, .ref x] h sz 0 0 (qR (.int (b2i (vLkA V f i ds x))) h sz) := by
  obtain ⟨hs, hL, hT, hi, hA⟩ := hV
  have ht := hT.1
  refine SM.of (lv0 := [some (.ref s), some (.int ds), some (.ref x), none, none]) (by decide +kernel) rfl ⟨rfl, rfl⟩ rfl (by simp [Value.category]) (Nat.le_of_ble_eq_true rfl) ?_
  have loop : ∀ m j q4, j ≤ 4 → 4 - j < m → (∀ o, o < j → vLk V f i ds x o = false) → GM G l 3 0 0 (qR (.int (b2i (vLkA V f i ds x))) h sz) M_S_knowsLackAmong 2 [some (.ref s), some (.int ds), some (.ref x), some (.int (nI j)), q4] [] h sz 0 0 := by
    intro m
    induction m with
    | zero => intro j _ _ hj; exact absurd hj (Nat.not_lt_zero _)
    | succ m ih =>
      intro j q4 hj hm hI
      have hnext : j < 4 → vLk V f i ds x j = false → ∀ w4, GM G l 3 0 0 (qR (.int (b2i (vLkA V f i ds x))) h sz) M_S_knowsLackAmong 50 [some (.ref s), some (.int ds), some (.ref x), some (.int (nI j)), w4] [] h sz 0 0 := by
        intro hj4 hk w4
        exact gw_ii3 d_S_knowsLackAmong_50 (by rw [n_s]; exact gw_goto d_S_knowsLackAmong_53 (ih (j + 1) w4 (by omega) (by omega) (lt_s hI hk)))
      have h29 : j < 4 → ∀ b : Bool, b = (decide (j ≠ i) && decide ((ds >>> (nI j &&& 31)) &&& 1 = 1)) → GM G l 3 0 0 (qR (.int (b2i (vLkA V f i ds x))) h sz) M_S_knowsLackAmong 29 [some (.ref s), some (.int ds), some (.ref x), some (.int (nI j)), q4] [.int (b2i b)] h sz 0 0 := by
        intro hj4 b hb
        have hk : vLk V f i ds x j = (b && !tCv V f j x) := by rw [hb, vLk, Bool.and_assoc]
        refine gw_is4 d_S_knowsLackAmong_29 ?_
        refine gw_il4 d_S_knowsLackAmong_31 ?_
        refine gw_ifeq d_S_knowsLackAmong_33 (fun c_33 => ?_) (fun c_33 => ?_)
        · exact hnext hj4 (by first | (rw [hk, show b = false from (b2i_eq0 _).mp c_33]; rfl) | (rw [hk, show tCv V f j x = true from (b2i_ne0 _).mp c_45]; cases b <;> rfl)) _
        · refine gw_al0 d_S_knowsLackAmong_36 ?_
          refine gw_get d_S_knowsLackAmong_37 (by assumption) (by rfl) ?_
          refine gw_il3 d_S_knowsLackAmong_40 ?_
          refine gw_al2 d_S_knowsLackAmong_41 ?_
          refine gw_rV2 d_S_knowsLackAmong_42 cs_S_knowsLackAmong_42 ht (c_T_covers hT hj4 hx.2.2 hx.1 hx.2.1) ?_
          refine gw_ifne d_S_knowsLackAmong_45 (fun c_45 => ?_) (fun c_45 => ?_)
          · exact hnext hj4 (by first | (rw [hk, show b = false from (b2i_eq0 _).mp c_33]; rfl) | (rw [hk, show tCv V f j x = true from (b2i_ne0 _).mp c_45]; cases b <;> rfl)) _
          · refine gw_push d_S_knowsLackAmong_48 ?_
            exact gw_zret d_S_knowsLackAmong_49 rfl (by decide) (Nat.le_refl _) (Nat.le_refl _) ⟨by rw [vLkA_of true ⟨fun _ => ⟨j, hj4, by rw [hk, show b = true from (b2i_ne0 _).mp c_33, show tCv V f j x = false from (b2i_eq0 _).mp c_45]; rfl⟩, fun _ => rfl⟩]; rfl, rfl, rfl⟩
      refine gw_il3 d_S_knowsLackAmong_2 ?_
      refine gw_push d_S_knowsLackAmong_3 ?_
      refine gw_icge d_S_knowsLackAmong_4 (fun c_4 => ?_) (fun c_4 => ?_)
      · refine gw_push d_S_knowsLackAmong_56 ?_
        have q4 := n_le (a := 4) c_4 (by decide) (by omega); obtain rfl : j = 4 := (by omega); exact gw_zret d_S_knowsLackAmong_57 rfl (by decide) (Nat.le_refl _) (Nat.le_refl _) ⟨by rw [vLkA_of false ⟨fun q => (by cases q), fun ⟨o, ho, q⟩ => by rw [hI o ho] at q; exact q⟩]; rfl, rfl, rfl⟩
      · refine gw_il3 d_S_knowsLackAmong_7 ?_
        refine gw_al0 d_S_knowsLackAmong_8 ?_
        refine gw_get d_S_knowsLackAmong_9 (by assumption) (by rfl) ?_
        have hj4 := n_nle (a := 4) c_4 (by decide) (by omega); refine gw_iceq d_S_knowsLackAmong_12 (fun c_12 => ?_) (fun c_12 => ?_)
        · refine gw_push d_S_knowsLackAmong_28 ?_
          first | exact h29 hj4 false (by rw [decide_eq_false (show ¬ j ≠ i from fun z => z (n_eq c_12 (by omega) (by omega)))]; rfl) | exact h29 hj4 false (by rw [decide_eq_false c_21]; cases decide (j ≠ i) <;> rfl) | exact h29 hj4 true (by rw [decide_eq_true c_21, decide_eq_true (show j ≠ i from fun z => c_12 (by rw [z]))]; rfl)
        · refine gw_il1 d_S_knowsLackAmong_15 ?_
          refine gw_il3 d_S_knowsLackAmong_16 ?_
          refine gw_ishr d_S_knowsLackAmong_17 ?_
          refine gw_push d_S_knowsLackAmong_18 ?_
          refine gw_iand d_S_knowsLackAmong_19 ?_
          refine gw_push d_S_knowsLackAmong_20 ?_
          refine gw_icne d_S_knowsLackAmong_21 (fun c_21 => ?_) (fun c_21 => ?_)
          · refine gw_push d_S_knowsLackAmong_28 ?_
            first | exact h29 hj4 false (by rw [decide_eq_false (show ¬ j ≠ i from fun z => z (n_eq c_12 (by omega) (by omega)))]; rfl) | exact h29 hj4 false (by rw [decide_eq_false c_21]; cases decide (j ≠ i) <;> rfl) | exact h29 hj4 true (by rw [decide_eq_true c_21, decide_eq_true (show j ≠ i from fun z => c_12 (by rw [z]))]; rfl)
          · refine gw_push d_S_knowsLackAmong_24 ?_
            refine gw_goto d_S_knowsLackAmong_25 ?_
            first | exact h29 hj4 false (by rw [decide_eq_false (show ¬ j ≠ i from fun z => z (n_eq c_12 (by omega) (by omega)))]; rfl) | exact h29 hj4 false (by rw [decide_eq_false c_21]; cases decide (j ≠ i) <;> rfl) | exact h29 hj4 true (by rw [decide_eq_true c_21, decide_eq_true (show j ≠ i from fun z => c_12 (by rw [z]))]; rfl)
  refine gw_push d_S_knowsLackAmong_0 ?_
  refine gw_is3 d_S_knowsLackAmong_1 ?_
  exact loop 5 0 _ (by omega) (by omega) lt_0
/-- what a sum over a list's first ones is -/
theorem c_S_bytesWith (hV : SV G V h s i a e L t c f) (hx : VA h V x) : SM G l 4 y_S_bytesWith M_S_bytesWith [.ref s, .ref x] h sz 0 0 (qR (.int (L.foldl (fun b y => if vRp V x y then b else b + vBy V y) (vBy V x))) h sz) := by
  obtain ⟨hs, hL, hT, hi, hA⟩ := hV
  obtain ⟨mo, ha⟩ := hL.1
  have h48 := hL.2.1
  have hx1 := hx.1
  refine SM.of (lv0 := [some (.ref s), some (.ref x), none, none, none]) (by decide +kernel) rfl ⟨rfl, rfl⟩ rfl (by simp [Value.category]) (Nat.le_of_ble_eq_true rfl) ?_
  have loop : ∀ m j q4, j ≤ L.length → L.length - j < m → GM G l 4 0 0 (qR (.int (L.foldl (fun b y => if vRp V x y then b else b + vBy V y) (vBy V x))) h sz) M_S_bytesWith 7 [some (.ref s), some (.ref x), some (.int ((L.take j).foldl (fun b y => if vRp V x y then b else b + vBy V y) (vBy V x))), some (.int (nI j)), q4] [] h sz 0 0 := by
    intro m
    induction m with
    | zero => intro j _ _ hj; exact absurd hj (Nat.not_lt_zero _)
    | succ m ih =>
      intro j q4 hj hm
      refine gw_il3 d_S_bytesWith_7 ?_
      refine gw_al0 d_S_bytesWith_8 ?_
      refine gw_get d_S_bytesWith_9 (by assumption) (by rfl) ?_
      refine gw_rV0 d_S_bytesWith_12 cs_S_bytesWith_12 ha (c_A_size hL) ?_
      refine gw_icge d_S_bytesWith_15 (fun c_15 => ?_) (fun c_15 => ?_)
      · refine gw_il2 d_S_bytesWith_54 ?_
        have q4 := n_le c_15 (by omega) (by omega); obtain rfl : j = L.length := (by omega); exact gw_iret d_S_bytesWith_55 rfl (Nat.le_refl _) (Nat.le_refl _) ⟨by rw [List.take_length], rfl, rfl⟩
      · refine gw_al0 d_S_bytesWith_18 ?_
        refine gw_get d_S_bytesWith_19 (by assumption) (by rfl) ?_
        refine gw_il3 d_S_bytesWith_22 ?_
        have hlt := n_nle c_15 (by omega) (by omega); obtain ⟨y, hy⟩ := get_ex hlt; have hyA := hA y (List.mem_of_getElem? hy); have hy1 := hyA.1; refine gw_rV1 d_S_bytesWith_23 cs_S_bytesWith_23 ha (c_A_get hL hy) ?_
        refine gw_castV d_S_bytesWith_26 cl_S_bytesWith_26 (by assumption) ?_
        refine gw_as4 d_S_bytesWith_29 ?_
        refine gw_al1 d_S_bytesWith_31 ?_
        refine gw_al4 d_S_bytesWith_32 ?_
        refine gw_rV1 d_S_bytesWith_34 cs_S_bytesWith_34 hx1 (c_V_replaces hx.1 hx.2.1 hyA.1 hyA.2.1) ?_; rw [show (decide (nI (vDoc V x) = nI (vDoc V y)) && cov4 (vVec V x) (vVec V y)) = vRp V x y from by rw [vRp, decide_eq_decide.mpr (nI_eq (by have := hx.2.2; omega) (by have := hyA.2.2; omega))]]
        refine gw_ifne d_S_bytesWith_37 (fun c_37 => ?_) (fun c_37 => ?_)
        · refine gw_ii3 d_S_bytesWith_48 (by rw [n_s]; refine gw_goto d_S_bytesWith_51 ?_; have z := ih (j + 1) (some (.ref y)) (by omega) (by omega); rw [take_s hy, List.foldl_append, List.foldl_cons, List.foldl_nil] at z; first | (rw [if_pos ((b2i_ne0 _).mp c_37)] at z; exact z) | (rw [if_neg (by rw [(b2i_eq0 _).mp c_37]; decide)] at z; exact z))
        · refine gw_il2 d_S_bytesWith_40 ?_
          refine gw_al4 d_S_bytesWith_41 ?_
          refine gw_rV0 d_S_bytesWith_43 cs_S_bytesWith_43 hy1 (c_V_byteCount hyA.1) ?_
          refine gw_iadd d_S_bytesWith_46 ?_
          refine gw_is2 d_S_bytesWith_47 ?_
          refine gw_ii3 d_S_bytesWith_48 (by rw [n_s]; refine gw_goto d_S_bytesWith_51 ?_; have z := ih (j + 1) (some (.ref y)) (by omega) (by omega); rw [take_s hy, List.foldl_append, List.foldl_cons, List.foldl_nil] at z; first | (rw [if_pos ((b2i_ne0 _).mp c_37)] at z; exact z) | (rw [if_neg (by rw [(b2i_eq0 _).mp c_37]; decide)] at z; exact z))
  refine gw_al1 d_S_bytesWith_0 ?_
  refine gw_rV0 d_S_bytesWith_1 cs_S_bytesWith_1 hx1 (c_V_byteCount hx.1) ?_
  refine gw_is2 d_S_bytesWith_4 ?_
  refine gw_push d_S_bytesWith_5 ?_
  refine gw_is3 d_S_bytesWith_6 ?_
  exact loop (L.length + 1) 0 _ (by omega) (by omega)
theorem c_S_countSiblings (hV : SV G V h s i a e L t c f) {d : Int32} : SM G l 4 y_S_countSiblings M_S_countSiblings [.ref s, .int d] h sz 0 0 (qR (.int (nI (L.countP (vHb V d)))) h sz) := by
  obtain ⟨hs, hL, hT, hi, hA⟩ := hV
  obtain ⟨mo, ha⟩ := hL.1
  have h48 := hL.2.1
  refine SM.of (lv0 := [some (.ref s), some (.int d), none, none]) (by decide +kernel) rfl ⟨rfl, rfl⟩ rfl (by simp [Value.category]) (Nat.le_of_ble_eq_true rfl) ?_
  have loop : ∀ m j, j ≤ L.length → L.length - j < m → GM G l 4 0 0 (qR (.int (nI (L.countP (vHb V d)))) h sz) M_S_countSiblings 4 [some (.ref s), some (.int d), some (.int (nI ((L.take j).countP (vHb V d)))), some (.int (nI j))] [] h sz 0 0 := by
    intro m
    induction m with
    | zero => intro j _ hj; exact absurd hj (Nat.not_lt_zero _)
    | succ m ih =>
      intro j hj hm
      have h36 : ∀ y, L[j]? = some y → GM G l 4 0 0 (qR (.int (nI (L.countP (vHb V d)))) h sz) M_S_countSiblings 36 [some (.ref s), some (.int d), some (.int (nI ((L.take (j + 1)).countP (vHb V d)))), some (.int (nI j))] [] h sz 0 0 := fun y hy => gw_ii3 d_S_countSiblings_36 (by rw [n_s]; exact gw_goto d_S_countSiblings_39 (ih (j + 1) (by have := (List.getElem?_eq_some_iff.mp hy).1; omega) (by have := (List.getElem?_eq_some_iff.mp hy).1; omega)))
      refine gw_il3 d_S_countSiblings_4 ?_
      refine gw_al0 d_S_countSiblings_5 ?_
      refine gw_get d_S_countSiblings_6 (by assumption) (by rfl) ?_
      refine gw_rV0 d_S_countSiblings_9 cs_S_countSiblings_9 ha (c_A_size hL) ?_
      refine gw_icge d_S_countSiblings_12 (fun c_12 => ?_) (fun c_12 => ?_)
      · refine gw_il2 d_S_countSiblings_42 ?_
        have q4 := n_le c_12 (by omega) (by omega); obtain rfl : j = L.length := (by omega); exact gw_iret d_S_countSiblings_43 rfl (Nat.le_refl _) (Nat.le_refl _) ⟨by rw [List.take_length], rfl, rfl⟩
      · refine gw_al0 d_S_countSiblings_15 ?_
        refine gw_get d_S_countSiblings_16 (by assumption) (by rfl) ?_
        refine gw_il3 d_S_countSiblings_19 ?_
        have hlt := n_nle c_12 (by omega) (by omega); obtain ⟨y, hy⟩ := get_ex hlt; have hyA := hA y (List.mem_of_getElem? hy); have hy1 := hyA.1; refine gw_rV1 d_S_countSiblings_20 cs_S_countSiblings_20 ha (c_A_get hL hy) ?_
        refine gw_castV d_S_countSiblings_23 cl_S_countSiblings_23 (by assumption) ?_
        refine gw_il1 d_S_countSiblings_26 ?_
        refine gw_rV1 d_S_countSiblings_27 cs_S_countSiblings_27 hy1 (c_V_hasBytesOf hyA.1) ?_
        refine gw_ifeq d_S_countSiblings_30 (fun c_30 => ?_) (fun c_30 => ?_)
        · have z := h36 y hy; rw [take_s hy, List.countP_append, List.countP_singleton] at z; first | (rw [show vHb V d y = false from (b2i_eq0 _).mp c_30] at z; exact z) | (rw [show vHb V d y = true from (b2i_ne0 _).mp c_30] at z; exact z)
        · refine gw_ii2 d_S_countSiblings_33 ?_; rw [n_s]
          have z := h36 y hy; rw [take_s hy, List.countP_append, List.countP_singleton] at z; first | (rw [show vHb V d y = false from (b2i_eq0 _).mp c_30] at z; exact z) | (rw [show vHb V d y = true from (b2i_ne0 _).mp c_30] at z; exact z)
  refine gw_push d_S_countSiblings_0 ?_
  refine gw_is2 d_S_countSiblings_1 ?_
  refine gw_push d_S_countSiblings_2 ?_
  refine gw_is3 d_S_countSiblings_3 ?_
  exact loop (L.length + 1) 0 (by omega) (by omega)
theorem c_S_countMarks (hV : SV G V h s i a e L t c f) : SM G l 4 y_S_countMarks M_S_countMarks [.ref s] h sz 0 0 (qR (.int (nI (L.countP (vMk V)))) h sz) := by
  obtain ⟨hs, hL, hT, hi, hA⟩ := hV
  obtain ⟨mo, ha⟩ := hL.1
  have h48 := hL.2.1
  refine SM.of (lv0 := [some (.ref s), none, none]) (by decide +kernel) rfl ⟨rfl, rfl⟩ rfl (by simp [Value.category]) (Nat.le_of_ble_eq_true rfl) ?_
  have loop : ∀ m j, j ≤ L.length → L.length - j < m → GM G l 4 0 0 (qR (.int (nI (L.countP (vMk V)))) h sz) M_S_countMarks 4 [some (.ref s), some (.int (nI ((L.take j).countP (vMk V)))), some (.int (nI j))] [] h sz 0 0 := by
    intro m
    induction m with
    | zero => intro j _ hj; exact absurd hj (Nat.not_lt_zero _)
    | succ m ih =>
      intro j hj hm
      have h36 : ∀ y, L[j]? = some y → GM G l 4 0 0 (qR (.int (nI (L.countP (vMk V)))) h sz) M_S_countMarks 35 [some (.ref s), some (.int (nI ((L.take (j + 1)).countP (vMk V)))), some (.int (nI j))] [] h sz 0 0 := fun y hy => gw_ii2 d_S_countMarks_35 (by rw [n_s]; exact gw_goto d_S_countMarks_38 (ih (j + 1) (by have := (List.getElem?_eq_some_iff.mp hy).1; omega) (by have := (List.getElem?_eq_some_iff.mp hy).1; omega)))
      refine gw_il2 d_S_countMarks_4 ?_
      refine gw_al0 d_S_countMarks_5 ?_
      refine gw_get d_S_countMarks_6 (by assumption) (by rfl) ?_
      refine gw_rV0 d_S_countMarks_9 cs_S_countMarks_9 ha (c_A_size hL) ?_
      refine gw_icge d_S_countMarks_12 (fun c_12 => ?_) (fun c_12 => ?_)
      · refine gw_il1 d_S_countMarks_41 ?_
        have q4 := n_le c_12 (by omega) (by omega); obtain rfl : j = L.length := (by omega); exact gw_iret d_S_countMarks_42 rfl (Nat.le_refl _) (Nat.le_refl _) ⟨by rw [List.take_length], rfl, rfl⟩
      · refine gw_al0 d_S_countMarks_15 ?_
        refine gw_get d_S_countMarks_16 (by assumption) (by rfl) ?_
        refine gw_il2 d_S_countMarks_19 ?_
        have hlt := n_nle c_12 (by omega) (by omega); obtain ⟨y, hy⟩ := get_ex hlt; have hyA := hA y (List.mem_of_getElem? hy); have hy1 := hyA.1; refine gw_rV1 d_S_countMarks_20 cs_S_countMarks_20 ha (c_A_get hL hy) ?_
        refine gw_castV d_S_countMarks_23 cl_S_countMarks_23 (by assumption) ?_
        refine gw_rV0 d_S_countMarks_26 cs_S_countMarks_26 hy1 (c_V_isMark hyA.1) ?_
        refine gw_ifeq d_S_countMarks_29 (fun c_29 => ?_) (fun c_29 => ?_)
        · have z := h36 y hy; rw [take_s hy, List.countP_append, List.countP_singleton] at z; first | (rw [show vMk V y = false from (b2i_eq0 _).mp c_29] at z; exact z) | (rw [show vMk V y = true from (b2i_ne0 _).mp c_29] at z; exact z)
        · refine gw_ii1 d_S_countMarks_32 ?_; rw [n_s]
          have z := h36 y hy; rw [take_s hy, List.countP_append, List.countP_singleton] at z; first | (rw [show vMk V y = false from (b2i_eq0 _).mp c_29] at z; exact z) | (rw [show vMk V y = true from (b2i_ne0 _).mp c_29] at z; exact z)
  refine gw_push d_S_countMarks_0 ?_
  refine gw_is1 d_S_countMarks_1 ?_
  refine gw_push d_S_countMarks_2 ?_
  refine gw_is2 d_S_countMarks_3 ?_
  exact loop (L.length + 1) 0 (by omega) (by omega)
theorem c_S_countBytes (hV : SV G V h s i a e L t c f) : SM G l 4 y_S_countBytes M_S_countBytes [.ref s] h sz 0 0 (qR (.int (L.foldl (fun b y => b + vBy V y) 0)) h sz) := by
  obtain ⟨hs, hL, hT, hi, hA⟩ := hV
  obtain ⟨mo, ha⟩ := hL.1
  have h48 := hL.2.1
  refine SM.of (lv0 := [some (.ref s), none, none]) (by decide +kernel) rfl ⟨rfl, rfl⟩ rfl (by simp [Value.category]) (Nat.le_of_ble_eq_true rfl) ?_
  have loop : ∀ m j, j ≤ L.length → L.length - j < m → GM G l 4 0 0 (qR (.int (L.foldl (fun b y => b + vBy V y) 0)) h sz) M_S_countBytes 4 [some (.ref s), some (.int ((L.take j).foldl (fun b y => b + vBy V y) 0)), some (.int (nI j))] [] h sz 0 0 := by
    intro m
    induction m with
    | zero => intro j _ hj; exact absurd hj (Nat.not_lt_zero _)
    | succ m ih =>
      intro j hj hm
      refine gw_il2 d_S_countBytes_4 ?_
      refine gw_al0 d_S_countBytes_5 ?_
      refine gw_get d_S_countBytes_6 (by assumption) (by rfl) ?_
      refine gw_rV0 d_S_countBytes_9 cs_S_countBytes_9 ha (c_A_size hL) ?_
      refine gw_icge d_S_countBytes_12 (fun c_12 => ?_) (fun c_12 => ?_)
      · refine gw_il1 d_S_countBytes_38 ?_
        have q4 := n_le c_12 (by omega) (by omega); obtain rfl : j = L.length := (by omega); exact gw_iret d_S_countBytes_39 rfl (Nat.le_refl _) (Nat.le_refl _) ⟨by rw [List.take_length], rfl, rfl⟩
      · refine gw_il1 d_S_countBytes_15 ?_
        refine gw_al0 d_S_countBytes_16 ?_
        refine gw_get d_S_countBytes_17 (by assumption) (by rfl) ?_
        refine gw_il2 d_S_countBytes_20 ?_
        have hlt := n_nle c_12 (by omega) (by omega); obtain ⟨y, hy⟩ := get_ex hlt; have hyA := hA y (List.mem_of_getElem? hy); have hy1 := hyA.1; refine gw_rV1 d_S_countBytes_21 cs_S_countBytes_21 ha (c_A_get hL hy) ?_
        refine gw_castV d_S_countBytes_24 cl_S_countBytes_24 (by assumption) ?_
        refine gw_rV0 d_S_countBytes_27 cs_S_countBytes_27 hy1 (c_V_byteCount hyA.1) ?_
        refine gw_iadd d_S_countBytes_30 ?_
        refine gw_is1 d_S_countBytes_31 ?_
        refine gw_ii2 d_S_countBytes_32 (by rw [n_s]; refine gw_goto d_S_countBytes_35 ?_; have z := ih (j + 1) (by omega) (by omega); rw [take_s hy, List.foldl_append, List.foldl_cons, List.foldl_nil] at z; exact z)
  refine gw_push d_S_countBytes_0 ?_
  refine gw_is1 d_S_countBytes_1 ?_
  refine gw_push d_S_countBytes_2 ?_
  refine gw_is2 d_S_countBytes_3 ?_
  exact loop (L.length + 1) 0 (by omega) (by omega)
/-- the k-th of those that p holds of, b ahead -/
def kth (p : Nat → Bool) (k : Int32) : List Nat → Nat → Option Nat
  | [], _ => none
  | y :: r, b => if p y then (if nI b = k then some y else kth p k r (b + 1)) else kth p k r b
theorem c_S_findSibling (hV : SV G V h s i a e L t c f) {d k : Int32} : SM G l 4 y_S_findSibling M_S_findSibling [.ref s, .int d, .int k] h sz 0 0 (qR (va_rf (kth (vHb V d) k L 0)) h sz) := by
  obtain ⟨hs, hL, hT, hi, hA⟩ := hV
  obtain ⟨mo, ha⟩ := hL.1
  have h48 := hL.2.1
  refine SM.of (lv0 := [some (.ref s), some (.int d), some (.int k), none, none, none]) (by decide +kernel) rfl ⟨rfl, rfl⟩ rfl (by simp [Value.category]) (Nat.le_of_ble_eq_true rfl) ?_
  have loop : ∀ m j b q5, j ≤ L.length → L.length - j < m → b ≤ j → kth (vHb V d) k L 0 = kth (vHb V d) k (L.drop j) b → GM G l 4 0 0 (qR (va_rf (kth (vHb V d) k L 0)) h sz) M_S_findSibling 5 [some (.ref s), some (.int d), some (.int k), some (.int (nI b)), some (.int (nI j)), q5] [] h sz 0 0 := by
    intro m
    induction m with
    | zero => intro j _ _ _ hj; exact absurd hj (Nat.not_lt_zero _)
    | succ m ih =>
      intro j b q5 hj hm hb hk
      have hcons : ∀ y, L[j]? = some y → L.drop j = y :: L.drop (j + 1) := fun y hy => by
        obtain ⟨hlt, e1⟩ := List.getElem?_eq_some_iff.mp hy
        rw [List.drop_eq_getElem_cons hlt, e1]
      refine gw_il4 d_S_findSibling_5 ?_
      refine gw_al0 d_S_findSibling_7 ?_
      refine gw_get d_S_findSibling_8 (by assumption) (by rfl) ?_
      refine gw_rV0 d_S_findSibling_11 cs_S_findSibling_11 ha (c_A_size hL) ?_
      refine gw_icge d_S_findSibling_14 (fun c_14 => ?_) (fun c_14 => ?_)
      · refine gw_null d_S_findSibling_57 ?_
        have q4 := n_le c_14 (by omega) (by omega); obtain rfl : j = L.length := (by omega); rw [List.drop_length] at hk; exact gw_aret d_S_findSibling_58 rfl (Or.inl ⟨_, rfl⟩) (Or.inl rfl) (Nat.le_refl _) (Nat.le_refl _) ⟨by rw [hk]; rfl, rfl, rfl⟩
      · refine gw_al0 d_S_findSibling_17 ?_
        refine gw_get d_S_findSibling_18 (by assumption) (by rfl) ?_
        refine gw_il4 d_S_findSibling_21 ?_
        have hlt := n_nle c_14 (by omega) (by omega); obtain ⟨y, hy⟩ := get_ex hlt; have hyA := hA y (List.mem_of_getElem? hy); have hy1 := hyA.1; rw [hcons y hy, kth] at hk; refine gw_rV1 d_S_findSibling_23 cs_S_findSibling_23 ha (c_A_get hL hy) ?_
        refine gw_castV d_S_findSibling_26 cl_S_findSibling_26 (by assumption) ?_
        refine gw_as5 d_S_findSibling_29 ?_
        refine gw_al5 d_S_findSibling_31 ?_
        refine gw_il1 d_S_findSibling_33 ?_
        refine gw_rV1 d_S_findSibling_34 cs_S_findSibling_34 hy1 (c_V_hasBytesOf hyA.1) ?_
        refine gw_ifeq d_S_findSibling_37 (fun c_37 => ?_) (fun c_37 => ?_)
        · first | (rw [show vHb V d y = false from (b2i_eq0 _).mp c_37] at hk; exact gw_ii4 d_S_findSibling_51 (by rw [n_s]; exact gw_goto d_S_findSibling_54 (ih (j + 1) b _ (by omega) (by omega) (by omega) hk))) | (rw [show vHb V d y = true from (b2i_ne0 _).mp c_37, if_pos rfl, if_neg c_42] at hk; exact gw_ii4 d_S_findSibling_51 (by rw [n_s]; exact gw_goto d_S_findSibling_54 (ih (j + 1) (b + 1) _ (by omega) (by omega) (by omega) hk)))
        · refine gw_il3 d_S_findSibling_40 ?_
          refine gw_il2 d_S_findSibling_41 ?_
          refine gw_icne d_S_findSibling_42 (fun c_42 => ?_) (fun c_42 => ?_)
          · refine gw_ii3 d_S_findSibling_48 ?_; rw [n_s]
            first | (rw [show vHb V d y = false from (b2i_eq0 _).mp c_37] at hk; exact gw_ii4 d_S_findSibling_51 (by rw [n_s]; exact gw_goto d_S_findSibling_54 (ih (j + 1) b _ (by omega) (by omega) (by omega) hk))) | (rw [show vHb V d y = true from (b2i_ne0 _).mp c_37, if_pos rfl, if_neg c_42] at hk; exact gw_ii4 d_S_findSibling_51 (by rw [n_s]; exact gw_goto d_S_findSibling_54 (ih (j + 1) (b + 1) _ (by omega) (by omega) (by omega) hk)))
          · refine gw_al5 d_S_findSibling_45 ?_
            rw [show vHb V d y = true from (b2i_ne0 _).mp c_37, if_pos rfl, if_pos c_42] at hk; exact gw_aret d_S_findSibling_47 rfl (Or.inl ⟨_, rfl⟩) (Or.inr ⟨_, rfl⟩) (Nat.le_refl _) (Nat.le_refl _) ⟨by rw [hk]; rfl, rfl, rfl⟩
  refine gw_push d_S_findSibling_0 ?_
  refine gw_is3 d_S_findSibling_1 ?_
  refine gw_push d_S_findSibling_2 ?_
  refine gw_is4 d_S_findSibling_3 ?_
  exact loop (L.length + 1) 0 0 _ (by omega) (by omega) (by omega) rfl
end Sta
