/-! settling: one bell in the order of the text; the last item -/
theorem item_bell {n b K : Nat} {gx : Gs} {rec : (Gs → Int32 → Int32 → Option (Gs)) × (Gs → Int32 → Int32 → Option (Gs)) × (Gs → Int32 → Option (Gs)) × (Gs → Int32 → Option (Gs)) × (Gs → Int32 → Option (Gs)) × (Gs → Int32 → Option (Gs)) × (Gs → Int32 → Int32 → Option (Gs)) × (Gs → Int32 → Int32 → Option (Gs))} {v3 : Int32} (hb : b < 12) (h77 : gI gx 77 = nI K) (hK : K < 52) : b_X12_settle_247 n rec gx (nI b) v3 = rec.2.2.2.2.2.2.2 (sI (sIA gx 76 (upd (gIA gx 76) K (nI (100 + b)))) 77 (nI (K + 1))) (nI (b + 1)) v3 := by
  unfold b_X12_settle_247
  rw [h77, grd_t (inB_nI hK (by decide)), nI_clamp (show K < 2 ^ 31 by omega), nI_1, nI_1, show (100 : Int32) + nI b = nI (100 + b) from nI_plus 100 b]
/-- nothing is left: on to the bells' tables -/
theorem items_end {n fr th be : Nat} {gx : Gs} (h60 : gI gx 60 = nI th) (h34 : gI gx 34 = nI be) (hth : th ≤ 40) (hbe : be ≤ 12) : (L_X12_settle n (fr + 2)).2.2.2.2.2.2.2 gx (nI be) (nI th) = (L_X12_settle n fr).2.2.1 gx 0 := by
  show h_X12_settle_216 n (L_X12_settle n (fr + 1)) gx (nI be) (nI th) = _
  unfold h_X12_settle_216 b_X12_settle_276 b_X12_settle_414
  rw [h34, if_pos (nI_le (Nat.le_refl _) (by omega)), h60, if_pos rfl, nI_1]
  show h_X12_settle_208 n (L_X12_settle n fr) gx (nI be) (nI (th + 1)) = _
  unfold h_X12_settle_208
  rw [h60, if_pos (nI_lt (a := th) (b := th + 1) (by omega) (by omega))]
