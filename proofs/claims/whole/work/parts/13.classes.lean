/-! what the tables say of the classes -/
def zcw : List (List Nat) := [[1234, 1236], [1110, 1112], [1188, 1190, 1192, 1194, 1196, 1198, 1200, 1202], [2011, 2013, 2015], [1154, 1156, 1158, 1160, 1162, 1164, 1166, 1168, 1170, 1172, 1174, 1176], [1217, 1219, 1221, 1223], [1066, 1068, 1070, 1072], [1122], [1052, 1054, 1056], [1092, 1094, 1096], [2032, 2034, 2036, 2038, 2040, 2042, 2044, 2046, 2048, 2050, 2052], [4217, 4219, 4221, 4223, 4225, 4227, 4229, 4231, 4233, 4235, 4237, 4239, 5001, 5003, 5005, 5007, 5009, 5011, 5013, 5015, 5017, 5019, 5021, 5023, 5025, 5027, 5029]]
theorem zcls_ok : ((List.range 12).all (fun ci => (List.range (zqc ci).2.2).all (fun j => zwd ((zcw.getD ci []).getD j 0) (u_lay (zqc ci).1 (zqc ci).2.1 j)))) = true := by decide +kernel
theorem zty_ok : ((List.range 12).all (fun ci => (List.range (zqc ci).2.2).all (fun j => decide (parseFieldDescriptor ((zqc ci).2.1 j).2.2.1 = some (zTy ci j))))) = true := by decide +kernel
theorem znm_ok : ((List.range 12).all (fun ci => (List.range (zqc ci).2.2).all (fun i => (List.range (zqc ci).2.2).all (fun j => decide (i ≠ j → ((zqc ci).2.1 i).2.1 ≠ ((zqc ci).2.1 j).2.1))))) = true := by decide +kernel
theorem zob_code : zwd 1022 (.code objectInit ⟨#[0xb1]⟩ 1 none) = true := by decide +kernel
theorem zob_inst : zwd 1021 (.instanceMethod objectInit) = true := by decide +kernel
theorem zac_I : zwd 1060 (.arrayClass .int) = true := by decide +kernel
theorem zac_J : zwd 1059 (.arrayClass .long) = true := by decide +kernel
theorem zac_Z : zwd 1239 (.arrayClass .boolean) = true := by decide +kernel
theorem zrt_ok : ((List.range 247).all (fun m => match (zf m).1 with | 0 => decide (zRt m = none) && decide (m ≠ 0) | 1 => decide (zRt m = some .int) && decide (m ≠ 0) | 2 => decide (zRt m = some .long) && decide (m ≠ 0) | 3 => decide (m ≠ 0) && (match zRt m with | some (.object _) => true | _ => false) | 4 => decide (zRt m = some .boolean) && decide (m ≠ 0) | 5 => decide (m = 0) | _ => false)) = true := by decide +kernel
theorem zin_ok : ((List.range 247).all (fun m => !(zIn m) || decide ((zNm m).name = "<init>"))) = true := by decide +kernel
theorem zcl_q {ci : Nat} (h : ci < 12) : vwCl[ci]? = some (zqc ci) := by
  have : ∀ c, c < 12 → vwCl[c]? = some (zqc c) := by
    intro c hc
    rcases c with _ | _ | _ | _ | _ | _ | _ | _ | _ | _ | _ | _ | c <;> first | rfl | omega
  exact this ci h
