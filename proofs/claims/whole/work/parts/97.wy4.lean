theorem WY_2 {n : Nat} {k h b : Nat → Nat} {d : Nat → Option Nat} (hn7 : n ≤ 7) (hn1 : 1 ≤ n) (hdn : ∀ p, p < n → ∀ q, d p = some q → q < n) (hdi : ∀ p p' q, p < n → p' < n → d p = some q → d p' = some q → p = p') : (VS n k h b d (PM (LV n d).length)).countP (rgB n) = clS (chS n k h b d) n 1 0 := by
  obtain ⟨br1, br2⟩ := Bool.and_eq_true_iff.mp (brU n hn7 hn1)
  have br2 := List.isPerm_iff.mp br2
  have h1 : (VS n k h b d (PM (LV n d).length)).countP (rgB n) = ((VS n k h b d (PM (LV n d).length)).map (fun s => (List.range n).map s)).countP (rgU n) := by
    rw [List.countP_map]
    apply List.countP_congr
    intro s hs
    unfold VS at hs
    obtain ⟨w, hw, rfl⟩ := List.mem_map.mp hs
    have hw := (List.mem_filter.mp hw).1
    have hlt := mg_lt hn7 hdn hdi hw
    show _ ↔ rgB n (fun p => ((List.range n).map (mgF n d w)).getD p 0) = true
    have : rgS n (fun p => some (mgF n d w p)) 0 = rgS n (fun p => some (((List.range n).map (mgF n d w)).getD p 0)) 0 := by
      unfold rgS
      apply rgo_cong (n := n)
      · intro a ha
        rw [List.getD_eq_getElem?_getD, List.getElem?_map, List.getElem?_range ha]
        rfl
      · intro a ha t e
        rw [← Option.some.inj e]
        exact hlt a ha
      · exact hn1
    unfold rgB
    rw [this]
  have hfull : flt (2 ^ n - 1).testBit n = List.range n := by
    unfold flt
    exact List.filter_eq_self.mpr (fun q hq => full_tb (List.mem_range.mp hq))
  have hok : ∀ u, okF (chS n k h b d) n n u = aL (fun p => (chS n k h b d p).testBit (u.getD p 0)) n 0 := by
    intro u
    rw [okF_all _ n n u (Nat.le_refl _), Nat.sub_self]
    rfl
  have h1p : pop 1 = 1 := by decide +kernel
  rw [h1, VS_eq hn7 hdn hdi, aS_flt, hfull, List.countP_filter, clS, h1p, clF_cnt, ← br2.countP_eq, List.countP_map, List.countP_filter]
  show List.countP _ (PM n) = _
  apply List.countP_congr
  intro u hu
  show (rgU n u && okF (chS n k h b d) n n u) = true ↔ (cyF (chS n k h b d) 0 (itU u (n - 1) 0) && rgU n u) = true
  rw [hok u]
  cases e : rgU n u with
  | false => simp
  | true =>
    rw [chU_cy (List.all_eq_true.mp br1 u (List.mem_filter.mpr ⟨hu, e⟩)), Bool.true_and, Bool.and_true]
theorem WY_all {n : Nat} {kA hsA dA bA : Nat → Int32} {k h b : Nat → Nat} {d : Nat → Option Nat} (hC : CoR n kA hsA dA bA k h b d) (hn1 : 1 ≤ n) : WY n k h b d := by
  obtain ⟨hn7, -, -, -, -, hdn, hdi⟩ := hC
  exact ⟨WY_1 hn7 hdn hdi, WY_2 hn7 hn1 hdn hdi, WY_3 hn7 hdn hdi, WY_4 hn7 hdn hdi, WY_5 hn7 hdn hdi⟩
