theorem clwX0 : ∀ c ∈ u_ws RX0 TX0 6, c ∈ pTs := List.forall_mem_cons.mpr ⟨pTs_in wd_292, List.forall_mem_cons.mpr ⟨pTs_in wd_294, List.forall_mem_cons.mpr ⟨pTs_in wd_296, List.forall_mem_cons.mpr ⟨pTs_in wd_298, List.forall_mem_cons.mpr ⟨pTs_in wd_300, List.forall_mem_cons.mpr ⟨pTs_in wd_302, fun _ h => absurd h List.not_mem_nil⟩⟩⟩⟩⟩⟩
theorem clsX0 : pCls 0 RX0 TX0 6 := ⟨rfl, clwX0, tyX0_ok, nmX0⟩
theorem defX0 : ∀ k, k < 6 → defaultValue (pTy 0 k) = match pIsR (pTy 0 k) with | true => .null | false => .int 0 := fun k hk => match k, hk with | 0, _ => rfl | 1, _ => rfl | 2, _ => rfl | 3, _ => rfl | 4, _ => rfl | 5, _ => rfl | k + 6, hk => absurd hk (by omega)
theorem clwX1 : ∀ c ∈ u_ws RX1 TX1 7, c ∈ pTs := List.forall_mem_cons.mpr ⟨pTs_in wd_253, List.forall_mem_cons.mpr ⟨pTs_in wd_255, List.forall_mem_cons.mpr ⟨pTs_in wd_257, List.forall_mem_cons.mpr ⟨pTs_in wd_259, List.forall_mem_cons.mpr ⟨pTs_in wd_261, List.forall_mem_cons.mpr ⟨pTs_in wd_263, List.forall_mem_cons.mpr ⟨pTs_in wd_265, fun _ h => absurd h List.not_mem_nil⟩⟩⟩⟩⟩⟩⟩
theorem clsX1 : pCls 1 RX1 TX1 7 := ⟨rfl, clwX1, tyX1_ok, nmX1⟩
theorem defX1 : ∀ k, k < 7 → defaultValue (pTy 1 k) = match pIsR (pTy 1 k) with | true => .null | false => .int 0 := fun k hk => match k, hk with | 0, _ => rfl | 1, _ => rfl | 2, _ => rfl | 3, _ => rfl | 4, _ => rfl | 5, _ => rfl | 6, _ => rfl | k + 7, hk => absurd hk (by omega)
theorem clwX2 : ∀ c ∈ u_ws RX2 TX2 5, c ∈ pTs := List.forall_mem_cons.mpr ⟨pTs_in wd_541, List.forall_mem_cons.mpr ⟨pTs_in wd_543, List.forall_mem_cons.mpr ⟨pTs_in wd_545, List.forall_mem_cons.mpr ⟨pTs_in wd_547, List.forall_mem_cons.mpr ⟨pTs_in wd_549, fun _ h => absurd h List.not_mem_nil⟩⟩⟩⟩⟩
theorem clsX2 : pCls 2 RX2 TX2 5 := ⟨rfl, clwX2, tyX2_ok, nmX2⟩
theorem defX2 : ∀ k, k < 5 → defaultValue (pTy 2 k) = match pIsR (pTy 2 k) with | true => .null | false => .int 0 := fun k hk => match k, hk with | 0, _ => rfl | 1, _ => rfl | 2, _ => rfl | 3, _ => rfl | 4, _ => rfl | k + 5, hk => absurd hk (by omega)
theorem clwX3 : ∀ c ∈ u_ws RX3 TX3 4, c ∈ pTs := List.forall_mem_cons.mpr ⟨pTs_in wd_327, List.forall_mem_cons.mpr ⟨pTs_in wd_329, List.forall_mem_cons.mpr ⟨pTs_in wd_331, List.forall_mem_cons.mpr ⟨pTs_in wd_333, fun _ h => absurd h List.not_mem_nil⟩⟩⟩⟩
theorem clsX3 : pCls 3 RX3 TX3 4 := ⟨rfl, clwX3, tyX3_ok, nmX3⟩
theorem defX3 : ∀ k, k < 4 → defaultValue (pTy 3 k) = match pIsR (pTy 3 k) with | true => .null | false => .int 0 := fun k hk => match k, hk with | 0, _ => rfl | 1, _ => rfl | 2, _ => rfl | 3, _ => rfl | k + 4, hk => absurd hk (by omega)
theorem clwX4 : ∀ c ∈ u_ws RX4 TX4 3, c ∈ pTs := List.forall_mem_cons.mpr ⟨pTs_in wd_220, List.forall_mem_cons.mpr ⟨pTs_in wd_222, List.forall_mem_cons.mpr ⟨pTs_in wd_224, fun _ h => absurd h List.not_mem_nil⟩⟩⟩
theorem clsX4 : pCls 4 RX4 TX4 3 := ⟨rfl, clwX4, tyX4_ok, nmX4⟩
theorem defX4 : ∀ k, k < 3 → defaultValue (pTy 4 k) = match pIsR (pTy 4 k) with | true => .null | false => .int 0 := fun k hk => match k, hk with | 0, _ => rfl | 1, _ => rfl | 2, _ => rfl | k + 3, hk => absurd hk (by omega)
theorem clwX5 : ∀ c ∈ u_ws RX5 TX5 3, c ∈ pTs := List.forall_mem_cons.mpr ⟨pTs_in wd_78, List.forall_mem_cons.mpr ⟨pTs_in wd_80, List.forall_mem_cons.mpr ⟨pTs_in wd_82, fun _ h => absurd h List.not_mem_nil⟩⟩⟩
theorem clsX5 : pCls 5 RX5 TX5 3 := ⟨rfl, clwX5, tyX5_ok, nmX5⟩
theorem defX5 : ∀ k, k < 3 → defaultValue (pTy 5 k) = match pIsR (pTy 5 k) with | true => .null | false => .int 0 := fun k hk => match k, hk with | 0, _ => rfl | 1, _ => rfl | 2, _ => rfl | k + 3, hk => absurd hk (by omega)
theorem clwX6 : ∀ c ∈ u_ws RX6 TX6 7, c ∈ pTs := List.forall_mem_cons.mpr ⟨pTs_in wd_363, List.forall_mem_cons.mpr ⟨pTs_in wd_365, List.forall_mem_cons.mpr ⟨pTs_in wd_367, List.forall_mem_cons.mpr ⟨pTs_in wd_369, List.forall_mem_cons.mpr ⟨pTs_in wd_371, List.forall_mem_cons.mpr ⟨pTs_in wd_373, List.forall_mem_cons.mpr ⟨pTs_in wd_375, fun _ h => absurd h List.not_mem_nil⟩⟩⟩⟩⟩⟩⟩
theorem clsX6 : pCls 6 RX6 TX6 7 := ⟨rfl, clwX6, tyX6_ok, nmX6⟩
theorem defX6 : ∀ k, k < 7 → defaultValue (pTy 6 k) = match pIsR (pTy 6 k) with | true => .null | false => .int 0 := fun k hk => match k, hk with | 0, _ => rfl | 1, _ => rfl | 2, _ => rfl | 3, _ => rfl | 4, _ => rfl | 5, _ => rfl | 6, _ => rfl | k + 7, hk => absurd hk (by omega)
theorem clwX7 : ∀ c ∈ u_ws RX7 TX7 3, c ∈ pTs := List.forall_mem_cons.mpr ⟨pTs_in wd_183, List.forall_mem_cons.mpr ⟨pTs_in wd_185, List.forall_mem_cons.mpr ⟨pTs_in wd_187, fun _ h => absurd h List.not_mem_nil⟩⟩⟩
theorem clsX7 : pCls 7 RX7 TX7 3 := ⟨rfl, clwX7, tyX7_ok, nmX7⟩
theorem defX7 : ∀ k, k < 3 → defaultValue (pTy 7 k) = match pIsR (pTy 7 k) with | true => .null | false => .int 0 := fun k hk => match k, hk with | 0, _ => rfl | 1, _ => rfl | 2, _ => rfl | k + 3, hk => absurd hk (by omega)
theorem clwX8 : ∀ c ∈ u_ws RX8 TX8 1, c ∈ pTs := List.forall_mem_cons.mpr ⟨pTs_in wd_353, fun _ h => absurd h List.not_mem_nil⟩
theorem clsX8 : pCls 8 RX8 TX8 1 := ⟨rfl, clwX8, tyX8_ok, nmX8⟩
theorem defX8 : ∀ k, k < 1 → defaultValue (pTy 8 k) = match pIsR (pTy 8 k) with | true => .null | false => .int 0 := fun k hk => match k, hk with | 0, _ => rfl | k + 1, hk => absurd hk (by omega)
theorem clwX9 : ∀ c ∈ u_ws RX9 TX9 2, c ∈ pTs := List.forall_mem_cons.mpr ⟨pTs_in wd_47, List.forall_mem_cons.mpr ⟨pTs_in wd_49, fun _ h => absurd h List.not_mem_nil⟩⟩
theorem clsX9 : pCls 9 RX9 TX9 2 := ⟨rfl, clwX9, tyX9_ok, nmX9⟩
theorem defX9 : ∀ k, k < 2 → defaultValue (pTy 9 k) = match pIsR (pTy 9 k) with | true => .null | false => .int 0 := fun k hk => match k, hk with | 0, _ => rfl | 1, _ => rfl | k + 2, hk => absurd hk (by omega)
theorem clwX10 : ∀ c ∈ u_ws RX10 TX10 5, c ∈ pTs := List.forall_mem_cons.mpr ⟨pTs_in wd_166, List.forall_mem_cons.mpr ⟨pTs_in wd_168, List.forall_mem_cons.mpr ⟨pTs_in wd_170, List.forall_mem_cons.mpr ⟨pTs_in wd_172, List.forall_mem_cons.mpr ⟨pTs_in wd_174, fun _ h => absurd h List.not_mem_nil⟩⟩⟩⟩⟩
theorem clsX10 : pCls 10 RX10 TX10 5 := ⟨rfl, clwX10, tyX10_ok, nmX10⟩
theorem defX10 : ∀ k, k < 5 → defaultValue (pTy 10 k) = match pIsR (pTy 10 k) with | true => .null | false => .int 0 := fun k hk => match k, hk with | 0, _ => rfl | 1, _ => rfl | 2, _ => rfl | 3, _ => rfl | 4, _ => rfl | k + 5, hk => absurd hk (by omega)
theorem clwX11 : ∀ c ∈ u_ws RX11 TX11 10, c ∈ pTs := List.forall_mem_cons.mpr ⟨pTs_in wd_388, List.forall_mem_cons.mpr ⟨pTs_in wd_390, List.forall_mem_cons.mpr ⟨pTs_in wd_392, List.forall_mem_cons.mpr ⟨pTs_in wd_394, List.forall_mem_cons.mpr ⟨pTs_in wd_396, List.forall_mem_cons.mpr ⟨pTs_in wd_398, List.forall_mem_cons.mpr ⟨pTs_in wd_400, List.forall_mem_cons.mpr ⟨pTs_in wd_402, List.forall_mem_cons.mpr ⟨pTs_in wd_404, List.forall_mem_cons.mpr ⟨pTs_in wd_406, fun _ h => absurd h List.not_mem_nil⟩⟩⟩⟩⟩⟩⟩⟩⟩⟩
theorem clsX11 : pCls 11 RX11 TX11 10 := ⟨rfl, clwX11, tyX11_ok, nmX11⟩
theorem defX11 : ∀ k, k < 10 → defaultValue (pTy 11 k) = match pIsR (pTy 11 k) with | true => .null | false => .int 0 := fun k hk => match k, hk with | 0, _ => rfl | 1, _ => rfl | 2, _ => rfl | 3, _ => rfl | 4, _ => rfl | 5, _ => rfl | 6, _ => rfl | 7, _ => rfl | 8, _ => rfl | 9, _ => rfl | k + 10, hk => absurd hk (by omega)
theorem clwX12 : ∀ c ∈ u_ws RX12 TX12 16, c ∈ pTs := List.forall_mem_cons.mpr ⟨pTs_in wd_1207, List.forall_mem_cons.mpr ⟨pTs_in wd_1209, List.forall_mem_cons.mpr ⟨pTs_in wd_1211, List.forall_mem_cons.mpr ⟨pTs_in wd_1213, List.forall_mem_cons.mpr ⟨pTs_in wd_1215, List.forall_mem_cons.mpr ⟨pTs_in wd_1217, List.forall_mem_cons.mpr ⟨pTs_in wd_1219, List.forall_mem_cons.mpr ⟨pTs_in wd_1221, List.forall_mem_cons.mpr ⟨pTs_in wd_1223, List.forall_mem_cons.mpr ⟨pTs_in wd_1225, List.forall_mem_cons.mpr ⟨pTs_in wd_1227, List.forall_mem_cons.mpr ⟨pTs_in wd_1229, List.forall_mem_cons.mpr ⟨pTs_in wd_1231, List.forall_mem_cons.mpr ⟨pTs_in wd_1233, List.forall_mem_cons.mpr ⟨pTs_in wd_1235, List.forall_mem_cons.mpr ⟨pTs_in wd_1237, fun _ h => absurd h List.not_mem_nil⟩⟩⟩⟩⟩⟩⟩⟩⟩⟩⟩⟩⟩⟩⟩⟩
theorem clsX12 : pCls 12 RX12 TX12 16 := ⟨rfl, clwX12, tyX12_ok, nmX12⟩
theorem defX12 : ∀ k, k < 16 → defaultValue (pTy 12 k) = match pIsR (pTy 12 k) with | true => .null | false => .int 0 := fun k hk => match k, hk with | 0, _ => rfl | 1, _ => rfl | 2, _ => rfl | 3, _ => rfl | 4, _ => rfl | 5, _ => rfl | 6, _ => rfl | 7, _ => rfl | 8, _ => rfl | 9, _ => rfl | 10, _ => rfl | 11, _ => rfl | 12, _ => rfl | 13, _ => rfl | 14, _ => rfl | 15, _ => rfl | k + 16, hk => absurd hk (by omega)
theorem clwX13 : ∀ c ∈ u_ws RX13 TX13 28, c ∈ pTs := List.forall_mem_cons.mpr ⟨pTs_in wd_1272, List.forall_mem_cons.mpr ⟨pTs_in wd_1274, List.forall_mem_cons.mpr ⟨pTs_in wd_1276, List.forall_mem_cons.mpr ⟨pTs_in wd_1278, List.forall_mem_cons.mpr ⟨pTs_in wd_1280, List.forall_mem_cons.mpr ⟨pTs_in wd_1282, List.forall_mem_cons.mpr ⟨pTs_in wd_1284, List.forall_mem_cons.mpr ⟨pTs_in wd_1286, List.forall_mem_cons.mpr ⟨pTs_in wd_1288, List.forall_mem_cons.mpr ⟨pTs_in wd_1290, List.forall_mem_cons.mpr ⟨pTs_in wd_1292, List.forall_mem_cons.mpr ⟨pTs_in wd_1294, List.forall_mem_cons.mpr ⟨pTs_in wd_1296, List.forall_mem_cons.mpr ⟨pTs_in wd_1298, List.forall_mem_cons.mpr ⟨pTs_in wd_1300, List.forall_mem_cons.mpr ⟨pTs_in wd_1302, List.forall_mem_cons.mpr ⟨pTs_in wd_1304, List.forall_mem_cons.mpr ⟨pTs_in wd_1306, List.forall_mem_cons.mpr ⟨pTs_in wd_1308, List.forall_mem_cons.mpr ⟨pTs_in wd_1310, List.forall_mem_cons.mpr ⟨pTs_in wd_1312, List.forall_mem_cons.mpr ⟨pTs_in wd_1314, List.forall_mem_cons.mpr ⟨pTs_in wd_1316, List.forall_mem_cons.mpr ⟨pTs_in wd_1318, List.forall_mem_cons.mpr ⟨pTs_in wd_1320, List.forall_mem_cons.mpr ⟨pTs_in wd_1322, List.forall_mem_cons.mpr ⟨pTs_in wd_1324, List.forall_mem_cons.mpr ⟨pTs_in wd_1326, fun _ h => absurd h List.not_mem_nil⟩⟩⟩⟩⟩⟩⟩⟩⟩⟩⟩⟩⟩⟩⟩⟩⟩⟩⟩⟩⟩⟩⟩⟩⟩⟩⟩⟩
theorem clsX13 : pCls 13 RX13 TX13 28 := ⟨rfl, clwX13, tyX13_ok, nmX13⟩
theorem defX13 : ∀ k, k < 28 → defaultValue (pTy 13 k) = match pIsR (pTy 13 k) with | true => .null | false => .int 0 := fun k hk => match k, hk with | 0, _ => rfl | 1, _ => rfl | 2, _ => rfl | 3, _ => rfl | 4, _ => rfl | 5, _ => rfl | 6, _ => rfl | 7, _ => rfl | 8, _ => rfl | 9, _ => rfl | 10, _ => rfl | 11, _ => rfl | 12, _ => rfl | 13, _ => rfl | 14, _ => rfl | 15, _ => rfl | 16, _ => rfl | 17, _ => rfl | 18, _ => rfl | 19, _ => rfl | 20, _ => rfl | 21, _ => rfl | 22, _ => rfl | 23, _ => rfl | 24, _ => rfl | 25, _ => rfl | 26, _ => rfl | 27, _ => rfl | k + 28, hk => absurd hk (by omega)
def mX0_init : pMI := (yX0_init, cX0_init, 1, none, [])
theorem okX0_init : pMIok mX0_init := ⟨by decide +kernel, by decide, wd_194⟩
theorem ceX0_init : pCallee mX0_init 0 := ⟨rfl, wd_11, by decide, by decide +kernel⟩
def mX0_clear : pMI := (yX0_clear, cX0_clear, 1, none, [])
theorem okX0_clear : pMIok mX0_clear := ⟨by decide +kernel, by decide, wd_420⟩
theorem ceX0_clear : pCallee mX0_clear 0 := ⟨rfl, wd_11, by decide, by decide +kernel⟩
def mX0_hasWord : pMI := (yX0_hasWord, cX0_hasWord, 2, (some .boolean), [])
theorem okX0_hasWord : pMIok mX0_hasWord := ⟨by decide +kernel, by decide, wd_1089⟩
theorem ceX0_hasWord : pCallee mX0_hasWord 1 := ⟨rfl, wd_11, by decide, by decide +kernel⟩
def mX0_addWord : pMI := (yX0_addWord, cX0_addWord, 2, (some .int), [])
theorem okX0_addWord : pMIok mX0_addWord := ⟨by decide +kernel, by decide, wd_677⟩
theorem ceX0_addWord : pCallee mX0_addWord 1 := ⟨rfl, wd_11, by decide, by decide +kernel⟩
def mX0_allWeights : pMI := (yX0_allWeights, cX0_allWeights, 3, (some .int), [])
theorem okX0_allWeights : pMIok mX0_allWeights := ⟨by decide +kernel, by decide, wd_753⟩
theorem ceX0_allWeights : pCallee mX0_allWeights 0 := ⟨rfl, wd_11, by decide, by decide +kernel⟩
def mX0_fade : pMI := (yX0_fade, cX0_fade, 3, none, [])
theorem okX0_fade : pMIok mX0_fade := ⟨by decide +kernel, by decide, wd_1047⟩
theorem ceX0_fade : pCallee mX0_fade 0 := ⟨rfl, wd_11, by decide, by decide +kernel⟩
def mX0_wordsThatBegin : pMI := (yX0_wordsThatBegin, cX0_wordsThatBegin, 4, (some .int), [])
theorem okX0_wordsThatBegin : pMIok mX0_wordsThatBegin := ⟨by decide +kernel, by decide, wd_844⟩
theorem ceX0_wordsThatBegin : pCallee mX0_wordsThatBegin 1 := ⟨rfl, wd_11, by decide, by decide +kernel⟩
def mX0_weightBehind : pMI := (yX0_weightBehind, cX0_weightBehind, 6, (some .int), [])
theorem okX0_weightBehind : pMIok mX0_weightBehind := ⟨by decide +kernel, by decide, wd_732⟩
theorem ceX0_weightBehind : pCallee mX0_weightBehind 2 := ⟨rfl, wd_11, by decide, by decide +kernel⟩
def mX0_trieNodes : pMI := (yX0_trieNodes, cX0_trieNodes, 5, (some .int), [])
theorem okX0_trieNodes : pMIok mX0_trieNodes := ⟨by decide +kernel, by decide, wd_848⟩
theorem ceX0_trieNodes : pCallee mX0_trieNodes 0 := ⟨rfl, wd_11, by decide, by decide +kernel⟩
def mX1_init : pMI := (yX1_init, cX1_init, 1, none, [])
theorem okX1_init : pMIok mX1_init := ⟨by decide +kernel, by decide, wd_231⟩
theorem ceX1_init : pCallee mX1_init 0 := ⟨rfl, wd_13, by decide, by decide +kernel⟩
def mX1_clear : pMI := (yX1_clear, cX1_clear, 1, none, [])
theorem okX1_clear : pMIok mX1_clear := ⟨by decide +kernel, by decide, wd_430⟩
theorem ceX1_clear : pCallee mX1_clear 0 := ⟨rfl, wd_13, by decide, by decide +kernel⟩
def mX1_size : pMI := (yX1_size, cX1_size, 1, (some .int), [])
theorem okX1_size : pMIok mX1_size := ⟨by decide +kernel, by decide, wd_790⟩
theorem ceX1_size : pCallee mX1_size 0 := ⟨rfl, wd_13, by decide, by decide +kernel⟩
def mX1_startSum : pMI := (yX1_startSum, cX1_startSum, 1, none, [])
theorem okX1_startSum : pMIok mX1_startSum := ⟨by decide +kernel, by decide, wd_580⟩
theorem ceX1_startSum : pCallee mX1_startSum 0 := ⟨rfl, wd_13, by decide, by decide +kernel⟩
def mX1_startTest : pMI := (yX1_startTest, cX1_startTest, 1, none, [])
theorem okX1_startTest : pMIok mX1_startTest := ⟨by decide +kernel, by decide, wd_610⟩
theorem ceX1_startTest : pCallee mX1_startTest 0 := ⟨rfl, wd_13, by decide, by decide +kernel⟩
def mX1_end : pMI := (yX1_end, cX1_end, 1, none, [])
theorem okX1_end : pMIok mX1_end := ⟨by decide +kernel, by decide, wd_629⟩
theorem ceX1_end : pCallee mX1_end 0 := ⟨rfl, wd_13, by decide, by decide +kernel⟩
def mX1_addStep : pMI := (yX1_addStep, cX1_addStep, 3, none, [])
theorem okX1_addStep : pMIok mX1_addStep := ⟨by decide +kernel, by decide, wd_602⟩
theorem ceX1_addStep : pCallee mX1_addStep 2 := ⟨rfl, wd_13, by decide, by decide +kernel⟩
def mX1_link : pMI := (yX1_link, cX1_link, 4, none, [])
theorem okX1_link : pMIok mX1_link := ⟨by decide +kernel, by decide, wd_700⟩
theorem ceX1_link : pCallee mX1_link 1 := ⟨rfl, wd_13, by decide, by decide +kernel⟩
def mX2_init : pMI := (yX2_init, cX2_init, 4, none, [])
theorem okX2_init : pMIok mX2_init := ⟨by decide +kernel, by decide, wd_534⟩
theorem ceX2_init : pCallee mX2_init 3 := ⟨rfl, wd_25, by decide, by decide +kernel⟩
def mX2_read : pMI := (yX2_read, cX2_read, 3, (some .int), [])
theorem okX2_read : pMIok mX2_read := ⟨by decide +kernel, by decide, wd_555⟩
theorem ceX2_read : pCallee mX2_read 0 := ⟨rfl, wd_25, by decide, by decide +kernel⟩
def mX2_is : pMI := (yX2_is, cX2_is, 2, (some .boolean), [])
theorem okX2_is : pMIok mX2_is := ⟨by decide +kernel, by decide, wd_559⟩
theorem ceX2_is : pCallee mX2_is 1 := ⟨rfl, wd_25, by decide, by decide +kernel⟩
def mX2_skip : pMI := (yX2_skip, cX2_skip, 2, (some .boolean), [])
theorem okX2_skip : pMIok mX2_skip := ⟨by decide +kernel, by decide, wd_564⟩
theorem ceX2_skip : pCallee mX2_skip 1 := ⟨rfl, wd_25, by decide, by decide +kernel⟩
def mX2_wordLine : pMI := (yX2_wordLine, cX2_wordLine, 1, (some .boolean), [])
theorem okX2_wordLine : pMIok mX2_wordLine := ⟨by decide +kernel, by decide, wd_568⟩
theorem ceX2_wordLine : pCallee mX2_wordLine 0 := ⟨rfl, wd_25, by decide, by decide +kernel⟩
def mX2_keyRows : pMI := (yX2_keyRows, cX2_keyRows, 3, (some .boolean), [])
theorem okX2_keyRows : pMIok mX2_keyRows := ⟨by decide +kernel, by decide, wd_572⟩
theorem ceX2_keyRows : pCallee mX2_keyRows 0 := ⟨rfl, wd_25, by decide, by decide +kernel⟩
def mX2_boost : pMI := (yX2_boost, cX2_boost, 2, (some .boolean), [])
theorem okX2_boost : pMIok mX2_boost := ⟨by decide +kernel, by decide, wd_576⟩
theorem ceX2_boost : pCallee mX2_boost 0 := ⟨rfl, wd_25, by decide, by decide +kernel⟩
def mX2_test : pMI := (yX2_test, cX2_test, 4, (some .boolean), [])
theorem okX2_test : pMIok mX2_test := ⟨by decide +kernel, by decide, wd_614⟩
theorem ceX2_test : pCallee mX2_test 1 := ⟨rfl, wd_25, by decide, by decide +kernel⟩
def mX2_both : pMI := (yX2_both, cX2_both, 4, (some .boolean), [])
theorem okX2_both : pMIok mX2_both := ⟨by decide +kernel, by decide, wd_618⟩
theorem ceX2_both : pCallee mX2_both 1 := ⟨rfl, wd_25, by decide, by decide +kernel⟩
def mX2_single : pMI := (yX2_single, cX2_single, 4, (some .boolean), [])
theorem okX2_single : pMIok mX2_single := ⟨by decide +kernel, by decide, wd_622⟩
theorem ceX2_single : pCallee mX2_single 1 := ⟨rfl, wd_25, by decide, by decide +kernel⟩
def mX2_compares : pMI := (yX2_compares, cX2_compares, 1, (some .boolean), [])
theorem okX2_compares : pMIok mX2_compares := ⟨by decide +kernel, by decide, wd_625⟩
theorem ceX2_compares : pCallee mX2_compares 1 := ⟨rfl, wd_25, by decide, by decide +kernel⟩
def mX2_sum : pMI := (yX2_sum, cX2_sum, 5, (some .boolean), [])
theorem okX2_sum : pMIok mX2_sum := ⟨by decide +kernel, by decide, wd_586⟩
theorem ceX2_sum : pCallee mX2_sum 1 := ⟨rfl, wd_25, by decide, by decide +kernel⟩
def mX2_product : pMI := (yX2_product, cX2_product, 5, (some .boolean), [])
theorem okX2_product : pMIok mX2_product := ⟨by decide +kernel, by decide, wd_590⟩
theorem ceX2_product : pCallee mX2_product 1 := ⟨rfl, wd_25, by decide, by decide +kernel⟩
def mX2_value : pMI := (yX2_value, cX2_value, 3, (some .boolean), [])
theorem okX2_value : pMIok mX2_value := ⟨by decide +kernel, by decide, wd_594⟩
theorem ceX2_value : pCallee mX2_value 1 := ⟨rfl, wd_25, by decide, by decide +kernel⟩
def mX2_ofTwo : pMI := (yX2_ofTwo, cX2_ofTwo, 3, (some .boolean), [])
theorem okX2_ofTwo : pMIok mX2_ofTwo := ⟨by decide +kernel, by decide, wd_606⟩
theorem ceX2_ofTwo : pCallee mX2_ofTwo 2 := ⟨rfl, wd_25, by decide, by decide +kernel⟩
def mX3_init : pMI := (yX3_init, cX3_init, 1, none, [])
theorem okX3_init : pMIok mX3_init := ⟨by decide +kernel, by decide, wd_309⟩
theorem ceX3_init : pCallee mX3_init 0 := ⟨rfl, wd_14, by decide, by decide +kernel⟩
def mX3_forget : pMI := (yX3_forget, cX3_forget, 1, none, [])
theorem okX3_forget : pMIok mX3_forget := ⟨by decide +kernel, by decide, wd_711⟩
theorem ceX3_forget : pCallee mX3_forget 0 := ⟨rfl, wd_14, by decide, by decide +kernel⟩
def mX3_supposeNothingTyped : pMI := (yX3_supposeNothingTyped, cX3_supposeNothingTyped, 2, none, [])
theorem okX3_supposeNothingTyped : pMIok mX3_supposeNothingTyped := ⟨by decide +kernel, by decide, wd_1110⟩
theorem ceX3_supposeNothingTyped : pCallee mX3_supposeNothingTyped 1 := ⟨rfl, wd_14, by decide, by decide +kernel⟩
def mX4_init : pMI := (yX4_init, cX4_init, 1, none, [])
theorem okX4_init : pMIok mX4_init := ⟨by decide +kernel, by decide, wd_204⟩
theorem ceX4_init : pCallee mX4_init 0 := ⟨rfl, wd_12, by decide, by decide +kernel⟩
def mX4_clear : pMI := (yX4_clear, cX4_clear, 1, none, [])
theorem okX4_clear : pMIok mX4_clear := ⟨by decide +kernel, by decide, wd_211⟩
theorem ceX4_clear : pCallee mX4_clear 0 := ⟨rfl, wd_12, by decide, by decide +kernel⟩
def mX4_rows : pMI := (yX4_rows, cX4_rows, 1, (some .int), [])
theorem okX4_rows : pMIok mX4_rows := ⟨by decide +kernel, by decide, wd_688⟩
theorem ceX4_rows : pCallee mX4_rows 0 := ⟨rfl, wd_12, by decide, by decide +kernel⟩
def mX4_addRow : pMI := (yX4_addRow, cX4_addRow, 4, (some .boolean), [])
theorem okX4_addRow : pMIok mX4_addRow := ⟨by decide +kernel, by decide, wd_692⟩
theorem ceX4_addRow : pCallee mX4_addRow 1 := ⟨rfl, wd_12, by decide, by decide +kernel⟩
def mX4_areNeighbours : pMI := (yX4_areNeighbours, cX4_areNeighbours, 6, (some .boolean), [])
theorem okX4_areNeighbours : pMIok mX4_areNeighbours := ⟨by decide +kernel, by decide, wd_724⟩
theorem ceX4_areNeighbours : pCallee mX4_areNeighbours 2 := ⟨rfl, wd_12, by decide, by decide +kernel⟩
def mX5_init : pMI := (yX5_init, cX5_init, 3, none, [])
theorem okX5_init : pMIok mX5_init := ⟨by decide +kernel, by decide, wd_69⟩
theorem ceX5_init : pCallee mX5_init 1 := ⟨rfl, wd_6, by decide, by decide +kernel⟩
def mX5_size : pMI := (yX5_size, cX5_size, 1, (some .int), [])
theorem okX5_size : pMIok mX5_size := ⟨by decide +kernel, by decide, wd_659⟩
theorem ceX5_size : pCallee mX5_size 0 := ⟨rfl, wd_6, by decide, by decide +kernel⟩
def mX5_isFull : pMI := (yX5_isFull, cX5_isFull, 1, (some .boolean), [])
theorem okX5_isFull : pMIok mX5_isFull := ⟨by decide +kernel, by decide, wd_1061⟩
theorem ceX5_isFull : pCallee mX5_isFull 0 := ⟨rfl, wd_6, by decide, by decide +kernel⟩
def mX5_at : pMI := (yX5_at, cX5_at, 2, (some (.object "WordPad$Row")), [])
theorem okX5_at : pMIok mX5_at := ⟨by decide +kernel, by decide, wd_737⟩
theorem ceX5_at : pCallee mX5_at 1 := ⟨rfl, wd_6, by decide, by decide +kernel⟩
def mX5_find : pMI := (yX5_find, cX5_find, 3, (some .int), [])
theorem okX5_find : pMIok mX5_find := ⟨by decide +kernel, by decide, wd_462⟩
theorem ceX5_find : pCallee mX5_find 1 := ⟨rfl, wd_6, by decide, by decide +kernel⟩
def mX5_add : pMI := (yX5_add, cX5_add, 2, (some .int), [])
theorem okX5_add : pMIok mX5_add := ⟨by decide +kernel, by decide, wd_143⟩
theorem ceX5_add : pCallee mX5_add 1 := ⟨rfl, wd_6, by decide, by decide +kernel⟩
def mX5_clear : pMI := (yX5_clear, cX5_clear, 1, none, [])
theorem okX5_clear : pMIok mX5_clear := ⟨by decide +kernel, by decide, wd_424⟩
theorem ceX5_clear : pCallee mX5_clear 0 := ⟨rfl, wd_6, by decide, by decide +kernel⟩
def mX6_init : pMI := (yX6_init, cX6_init, 1, none, [])
theorem okX6_init : pMIok mX6_init := ⟨by decide +kernel, by decide, wd_340⟩
theorem ceX6_init : pCallee mX6_init 0 := ⟨rfl, wd_15, by decide, by decide +kernel⟩
def mX6_far : pMI := (yX6_far, cX6_far, 2, (some .int), [])
theorem okX6_far : pMIok mX6_far := ⟨by decide +kernel, by decide, wd_864⟩
theorem ceX6_far : pCallee mX6_far 1 := ⟨rfl, wd_15, by decide, by decide +kernel⟩
def mX6_score : pMI := (yX6_score, cX6_score, 2, (some .int), [])
theorem okX6_score : pMIok mX6_score := ⟨by decide +kernel, by decide, wd_868⟩
theorem ceX6_score : pCallee mX6_score 1 := ⟨rfl, wd_15, by decide, by decide +kernel⟩
def mX6_place : pMI := (yX6_place, cX6_place, 2, (some .int), [])
theorem okX6_place : pMIok mX6_place := ⟨by decide +kernel, by decide, wd_872⟩
theorem ceX6_place : pCallee mX6_place 1 := ⟨rfl, wd_15, by decide, by decide +kernel⟩
def mX6_nearWords : pMI := (yX6_nearWords, cX6_nearWords, 1, (some .int), [])
theorem okX6_nearWords : pMIok mX6_nearWords := ⟨by decide +kernel, by decide, wd_840⟩
theorem ceX6_nearWords : pCallee mX6_nearWords 0 := ⟨rfl, wd_15, by decide, by decide +kernel⟩
def mX6_offered : pMI := (yX6_offered, cX6_offered, 2, (some .int), [])
theorem okX6_offered : pMIok mX6_offered := ⟨by decide +kernel, by decide, wd_876⟩
theorem ceX6_offered : pCallee mX6_offered 1 := ⟨rfl, wd_15, by decide, by decide +kernel⟩
def mX6_isOffered : pMI := (yX6_isOffered, cX6_isOffered, 2, (some .boolean), [])
theorem okX6_isOffered : pMIok mX6_isOffered := ⟨by decide +kernel, by decide, wd_1114⟩
theorem ceX6_isOffered : pCallee mX6_isOffered 1 := ⟨rfl, wd_15, by decide, by decide +kernel⟩
def mX6_renew : pMI := (yX6_renew, cX6_renew, 6, none, [])
theorem okX6_renew : pMIok mX6_renew := ⟨by decide +kernel, by decide, wd_765⟩
theorem ceX6_renew : pCallee mX6_renew 2 := ⟨rfl, wd_15, by decide, by decide +kernel⟩
def mX6_placeWords : pMI := (yX6_placeWords, cX6_placeWords, 5, none, [])
theorem okX6_placeWords : pMIok mX6_placeWords := ⟨by decide +kernel, by decide, wd_819⟩
theorem ceX6_placeWords : pCallee mX6_placeWords 2 := ⟨rfl, wd_15, by decide, by decide +kernel⟩
def mX6_wordsAhead : pMI := (yX6_wordsAhead, cX6_wordsAhead, 7, (some .int), [])
theorem okX6_wordsAhead : pMIok mX6_wordsAhead := ⟨by decide +kernel, by decide, wd_824⟩
theorem ceX6_wordsAhead : pCallee mX6_wordsAhead 3 := ⟨rfl, wd_15, by decide, by decide +kernel⟩
def mX6_leadsTie : pMI := (yX6_leadsTie, cX6_leadsTie, 5, (some .boolean), [])
theorem okX6_leadsTie : pMIok mX6_leadsTie := ⟨by decide +kernel, by decide, wd_827⟩
theorem ceX6_leadsTie : pCallee mX6_leadsTie 3 := ⟨rfl, wd_15, by decide, by decide +kernel⟩
def mX6_leastScoreToLead : pMI := (yX6_leastScoreToLead, cX6_leastScoreToLead, 8, (some .long), [])
theorem okX6_leastScoreToLead : pMIok mX6_leastScoreToLead := ⟨by decide +kernel, by decide, wd_1125⟩
theorem ceX6_leastScoreToLead : pCallee mX6_leastScoreToLead 2 := ⟨rfl, wd_15, by decide, by decide +kernel⟩
def mX6_distance : pMI := (yX6_distance, cX6_distance, 6, (some .int), [])
theorem okX6_distance : pMIok mX6_distance := ⟨by decide +kernel, by decide, wd_772⟩
theorem ceX6_distance : pCallee mX6_distance 3 := ⟨rfl, wd_15, by decide, by decide +kernel⟩
def mX6_typeOneMore : pMI := (yX6_typeOneMore, cX6_typeOneMore, 9, none, [])
theorem okX6_typeOneMore : pMIok mX6_typeOneMore := ⟨by decide +kernel, by decide, wd_779⟩
theorem ceX6_typeOneMore : pCallee mX6_typeOneMore 3 := ⟨rfl, wd_15, by decide, by decide +kernel⟩
def mX7_init : pMI := (yX7_init, cX7_init, 1, none, [])
theorem okX7_init : pMIok mX7_init := ⟨by decide +kernel, by decide, wd_57⟩
theorem ceX7_init : pCallee mX7_init 0 := ⟨rfl, wd_4, by decide, by decide +kernel⟩
def mX7_errorPosition : pMI := (yX7_errorPosition, cX7_errorPosition, 1, (some .int), [])
theorem okX7_errorPosition : pMIok mX7_errorPosition := ⟨by decide +kernel, by decide, wd_706⟩
theorem ceX7_errorPosition : pCallee mX7_errorPosition 0 := ⟨rfl, wd_4, by decide, by decide +kernel⟩
def mX7_read : pMI := (yX7_read, cX7_read, 5, (some .int), [])
theorem okX7_read : pMIok mX7_read := ⟨by decide +kernel, by decide, wd_416⟩
theorem ceX7_read : pCallee mX7_read 2 := ⟨rfl, wd_4, by decide, by decide +kernel⟩
def mX7_lookAt : pMI := (yX7_lookAt, cX7_lookAt, 4, (some .int), [])
theorem okX7_lookAt : pMIok mX7_lookAt := ⟨by decide +kernel, by decide, wd_642⟩
theorem ceX7_lookAt : pCallee mX7_lookAt 3 := ⟨rfl, wd_4, by decide, by decide +kernel⟩
def mX7_weigh : pMI := (yX7_weigh, cX7_weigh, 3, (some .int), [])
theorem okX7_weigh : pMIok mX7_weigh := ⟨by decide +kernel, by decide, wd_655⟩
theorem ceX7_weigh : pCallee mX7_weigh 2 := ⟨rfl, wd_4, by decide, by decide +kernel⟩
def mX7_lookAtName : pMI := (yX7_lookAtName, cX7_lookAtName, 6, (some .int), [])
theorem okX7_lookAtName : pMIok mX7_lookAtName := ⟨by decide +kernel, by decide, wd_671⟩
theorem ceX7_lookAtName : pCallee mX7_lookAtName 3 := ⟨rfl, wd_4, by decide, by decide +kernel⟩
def mX7_keyRow : pMI := (yX7_keyRow, cX7_keyRow, 3, (some .int), [])
theorem okX7_keyRow : pMIok mX7_keyRow := ⟨by decide +kernel, by decide, wd_684⟩
theorem ceX7_keyRow : pCallee mX7_keyRow 2 := ⟨rfl, wd_4, by decide, by decide +kernel⟩
def mX8_init : pMI := (yX8_init, cX8_init, 1, none, [])
theorem okX8_init : pMIok mX8_init := ⟨by decide +kernel, by decide, wd_348⟩
theorem ceX8_init : pCallee mX8_init 0 := ⟨rfl, wd_16, by decide, by decide +kernel⟩
def mX8_boost : pMI := (yX8_boost, cX8_boost, 10, (some .int), [])
theorem okX8_boost : pMIok mX8_boost := ⟨by decide +kernel, by decide, wd_786⟩
theorem ceX8_boost : pCallee mX8_boost 4 := ⟨rfl, wd_16, by decide, by decide +kernel⟩
def mX8_run : pMI := (yX8_run, cX8_run, 9, (some .int), [])
theorem okX8_run : pMIok mX8_run := ⟨by decide +kernel, by decide, wd_795⟩
theorem ceX8_run : pCallee mX8_run 5 := ⟨rfl, wd_16, by decide, by decide +kernel⟩
def mX8_ofHand : pMI := (yX8_ofHand, cX8_ofHand, 3, (some .int), [])
theorem okX8_ofHand : pMIok mX8_ofHand := ⟨by decide +kernel, by decide, wd_802⟩
theorem ceX8_ofHand : pCallee mX8_ofHand 3 := ⟨rfl, wd_16, by decide, by decide +kernel⟩
def mX8_ofTwo : pMI := (yX8_ofTwo, cX8_ofTwo, 3, (some .int), [])
theorem okX8_ofTwo : pMIok mX8_ofTwo := ⟨by decide +kernel, by decide, wd_810⟩
theorem ceX8_ofTwo : pCallee mX8_ofTwo 3 := ⟨rfl, wd_16, by decide, by decide +kernel⟩
def mX8_holds : pMI := (yX8_holds, cX8_holds, 3, (some .boolean), [])
theorem okX8_holds : pMIok mX8_holds := ⟨by decide +kernel, by decide, wd_815⟩
theorem ceX8_holds : pCallee mX8_holds 3 := ⟨rfl, wd_16, by decide, by decide +kernel⟩
def mX9_init : pMI := (yX9_init, cX9_init, 2, none, [])
theorem okX9_init : pMIok mX9_init := ⟨by decide +kernel, by decide, wd_40⟩
theorem ceX9_init : pCallee mX9_init 1 := ⟨rfl, wd_2, by decide, by decide +kernel⟩
def mX9_size : pMI := (yX9_size, cX9_size, 1, (some .int), [])
theorem okX9_size : pMIok mX9_size := ⟨by decide +kernel, by decide, wd_147⟩
theorem ceX9_size : pCallee mX9_size 0 := ⟨rfl, wd_2, by decide, by decide +kernel⟩
def mX9_isFull : pMI := (yX9_isFull, cX9_isFull, 1, (some .boolean), [])
theorem okX9_isFull : pMIok mX9_isFull := ⟨by decide +kernel, by decide, wd_650⟩
theorem ceX9_isFull : pCallee mX9_isFull 0 := ⟨rfl, wd_2, by decide, by decide +kernel⟩
def mX9_at : pMI := (yX9_at, cX9_at, 2, (some .int), [])
theorem okX9_at : pMIok mX9_at := ⟨by decide +kernel, by decide, wd_155⟩
theorem ceX9_at : pCallee mX9_at 1 := ⟨rfl, wd_2, by decide, by decide +kernel⟩
def mX9_put : pMI := (yX9_put, cX9_put, 3, none, [])
theorem okX9_put : pMIok mX9_put := ⟨by decide +kernel, by decide, wd_663⟩
theorem ceX9_put : pCallee mX9_put 2 := ⟨rfl, wd_2, by decide, by decide +kernel⟩
def mX9_add : pMI := (yX9_add, cX9_add, 2, none, [])
theorem okX9_add : pMIok mX9_add := ⟨by decide +kernel, by decide, wd_139⟩
theorem ceX9_add : pCallee mX9_add 1 := ⟨rfl, wd_2, by decide, by decide +kernel⟩
def mX9_removeLast : pMI := (yX9_removeLast, cX9_removeLast, 1, (some .int), [])
theorem okX9_removeLast : pMIok mX9_removeLast := ⟨by decide +kernel, by decide, wd_807⟩
theorem ceX9_removeLast : pCallee mX9_removeLast 0 := ⟨rfl, wd_2, by decide, by decide +kernel⟩
def mX9_shorten : pMI := (yX9_shorten, cX9_shorten, 2, none, [])
theorem okX9_shorten : pMIok mX9_shorten := ⟨by decide +kernel, by decide, wd_984⟩
theorem ceX9_shorten : pCallee mX9_shorten 1 := ⟨rfl, wd_2, by decide, by decide +kernel⟩
def mX9_clear : pMI := (yX9_clear, cX9_clear, 1, none, [])
theorem okX9_clear : pMIok mX9_clear := ⟨by decide +kernel, by decide, wd_159⟩
theorem ceX9_clear : pCallee mX9_clear 0 := ⟨rfl, wd_2, by decide, by decide +kernel⟩
def mX9_copy : pMI := (yX9_copy, cX9_copy, 5, none, [])
theorem okX9_copy : pMIok mX9_copy := ⟨by decide +kernel, by decide, wd_151⟩
theorem ceX9_copy : pCallee mX9_copy 3 := ⟨rfl, wd_2, by decide, by decide +kernel⟩
def mX9_fill : pMI := (yX9_fill, cX9_fill, 3, none, [])
theorem okX9_fill : pMIok mX9_fill := ⟨by decide +kernel, by decide, wd_215⟩
theorem ceX9_fill : pCallee mX9_fill 1 := ⟨rfl, wd_2, by decide, by decide +kernel⟩
def mX9_sameAhead : pMI := (yX9_sameAhead, cX9_sameAhead, 4, (some .int), [])
theorem okX9_sameAhead : pMIok mX9_sameAhead := ⟨by decide +kernel, by decide, wd_470⟩
theorem ceX9_sameAhead : pCallee mX9_sameAhead 1 := ⟨rfl, wd_2, by decide, by decide +kernel⟩
def mX9_beginsWith : pMI := (yX9_beginsWith, cX9_beginsWith, 2, (some .boolean), [])
theorem okX9_beginsWith : pMIok mX9_beginsWith := ⟨by decide +kernel, by decide, wd_743⟩
theorem ceX9_beginsWith : pCallee mX9_beginsWith 1 := ⟨rfl, wd_2, by decide, by decide +kernel⟩
def mX9_isSame : pMI := (yX9_isSame, cX9_isSame, 2, (some .boolean), [])
theorem okX9_isSame : pMIok mX9_isSame := ⟨by decide +kernel, by decide, wd_466⟩
theorem ceX9_isSame : pCallee mX9_isSame 1 := ⟨rfl, wd_2, by decide, by decide +kernel⟩
def mX9_addTo : pMI := (yX9_addTo, cX9_addTo, 6, (some .long), [])
theorem okX9_addTo : pMIok mX9_addTo := ⟨by decide +kernel, by decide, wd_853⟩
theorem ceX9_addTo : pCallee mX9_addTo 1 := ⟨rfl, wd_2, by decide, by decide +kernel⟩
def mX10_init : pMI := (yX10_init, cX10_init, 2, none, [])
theorem okX10_init : pMIok mX10_init := ⟨by decide +kernel, by decide, wd_63⟩
theorem ceX10_init : pCallee mX10_init 0 := ⟨rfl, wd_5, by decide, by decide +kernel⟩
def mX10_read : pMI := (yX10_read, cX10_read, 6, none, [])
theorem okX10_read : pMIok mX10_read := ⟨by decide +kernel, by decide, wd_436⟩
theorem ceX10_read : pCallee mX10_read 1 := ⟨rfl, wd_5, by decide, by decide +kernel⟩
def mX10_size : pMI := (yX10_size, cX10_size, 1, (some .int), [])
theorem okX10_size : pMIok mX10_size := ⟨by decide +kernel, by decide, wd_638⟩
theorem ceX10_size : pCallee mX10_size 0 := ⟨rfl, wd_5, by decide, by decide +kernel⟩
def mX10_kind : pMI := (yX10_kind, cX10_kind, 2, (some .int), [])
theorem okX10_kind : pMIok mX10_kind := ⟨by decide +kernel, by decide, wd_646⟩
theorem ceX10_kind : pCallee mX10_kind 1 := ⟨rfl, wd_5, by decide, by decide +kernel⟩
def mX10_start : pMI := (yX10_start, cX10_start, 2, (some .int), [])
theorem okX10_start : pMIok mX10_start := ⟨by decide +kernel, by decide, wd_633⟩
theorem ceX10_start : pCallee mX10_start 1 := ⟨rfl, wd_5, by decide, by decide +kernel⟩
def mX10_spell : pMI := (yX10_spell, cX10_spell, 3, (some (.object "WordPad$Row")), [])
theorem okX10_spell : pMIok mX10_spell := ⟨by decide +kernel, by decide, wd_667⟩
theorem ceX10_spell : pCallee mX10_spell 2 := ⟨rfl, wd_5, by decide, by decide +kernel⟩
def mX10_number : pMI := (yX10_number, cX10_number, 5, (some .int), [])
theorem okX10_number : pMIok mX10_number := ⟨by decide +kernel, by decide, wd_598⟩
theorem ceX10_number : pCallee mX10_number 2 := ⟨rfl, wd_5, by decide, by decide +kernel⟩
def mX10_skipBlanks : pMI := (yX10_skipBlanks, cX10_skipBlanks, 3, (some .int), [])
theorem okX10_skipBlanks : pMIok mX10_skipBlanks := ⟨by decide +kernel, by decide, wd_439⟩
theorem ceX10_skipBlanks : pCallee mX10_skipBlanks 2 := ⟨rfl, wd_5, by decide, by decide +kernel⟩
def mX10_lengthAt : pMI := (yX10_lengthAt, cX10_lengthAt, 3, (some .int), [])
theorem okX10_lengthAt : pMIok mX10_lengthAt := ⟨by decide +kernel, by decide, wd_444⟩
theorem ceX10_lengthAt : pCallee mX10_lengthAt 2 := ⟨rfl, wd_5, by decide, by decide +kernel⟩
def mX10_runLength : pMI := (yX10_runLength, cX10_runLength, 5, (some .int), [])
theorem okX10_runLength : pMIok mX10_runLength := ⟨by decide +kernel, by decide, wd_453⟩
theorem ceX10_runLength : pCallee mX10_runLength 3 := ⟨rfl, wd_5, by decide, by decide +kernel⟩
def mX10_kindAt : pMI := (yX10_kindAt, cX10_kindAt, 6, (some .int), [])
theorem okX10_kindAt : pMIok mX10_kindAt := ⟨by decide +kernel, by decide, wd_457⟩
theorem ceX10_kindAt : pCallee mX10_kindAt 3 := ⟨rfl, wd_5, by decide, by decide +kernel⟩
def mX11_init : pMI := (yX11_init, cX11_init, 1, none, [])
theorem okX11_init : pMIok mX11_init := ⟨by decide +kernel, by decide, wd_32⟩
theorem ceX11_init : pCallee mX11_init 0 := ⟨rfl, wd_1, by decide, by decide +kernel⟩
def mX11_feed : pMI := (yX11_feed, cX11_feed, 6, (some .int), [])
theorem okX11_feed : pMIok mX11_feed := ⟨by decide +kernel, by decide, wd_884⟩
theorem ceX11_feed : pCallee mX11_feed 5 := ⟨rfl, wd_1, by decide, by decide +kernel⟩
def mX11_trim : pMI := (yX11_trim, cX11_trim, 2, (some .int), [])
theorem okX11_trim : pMIok mX11_trim := ⟨by decide +kernel, by decide, wd_964⟩
theorem ceX11_trim : pCallee mX11_trim 1 := ⟨rfl, wd_1, by decide, by decide +kernel⟩
def mX11_teach : pMI := (yX11_teach, cX11_teach, 3, (some .int), [])
theorem okX11_teach : pMIok mX11_teach := ⟨by decide +kernel, by decide, wd_412⟩
theorem ceX11_teach : pCallee mX11_teach 0 := ⟨rfl, wd_1, by decide, by decide +kernel⟩
def mX11_errorAt : pMI := (yX11_errorAt, cX11_errorAt, 1, (some .int), [])
theorem okX11_errorAt : pMIok mX11_errorAt := ⟨by decide +kernel, by decide, wd_716⟩
theorem ceX11_errorAt : pCallee mX11_errorAt 0 := ⟨rfl, wd_1, by decide, by decide +kernel⟩
def mX11_count : pMI := (yX11_count, cX11_count, 2, (some .int), [])
theorem okX11_count : pMIok mX11_count := ⟨by decide +kernel, by decide, wd_992⟩
theorem ceX11_count : pCallee mX11_count 1 := ⟨rfl, wd_1, by decide, by decide +kernel⟩
def mX11_type : pMI := (yX11_type, cX11_type, 2, (some .int), [])
theorem okX11_type : pMIok mX11_type := ⟨by decide +kernel, by decide, wd_1015⟩
theorem ceX11_type : pCallee mX11_type 1 := ⟨rfl, wd_1, by decide, by decide +kernel⟩
def mX11_back : pMI := (yX11_back, cX11_back, 1, (some .int), [])
theorem okX11_back : pMIok mX11_back := ⟨by decide +kernel, by decide, wd_1026⟩
theorem ceX11_back : pCallee mX11_back 0 := ⟨rfl, wd_1, by decide, by decide +kernel⟩
def mX11_take : pMI := (yX11_take, cX11_take, 3, (some .int), [])
theorem okX11_take : pMIok mX11_take := ⟨by decide +kernel, by decide, wd_1035⟩
theorem ceX11_take : pCallee mX11_take 1 := ⟨rfl, wd_1, by decide, by decide +kernel⟩
def mX11_say : pMI := (yX11_say, cX11_say, 3, (some .int), [])
theorem okX11_say : pMIok mX11_say := ⟨by decide +kernel, by decide, wd_1055⟩
theorem ceX11_say : pCallee mX11_say 0 := ⟨rfl, wd_1, by decide, by decide +kernel⟩
def mX11_setLimit : pMI := (yX11_setLimit, cX11_setLimit, 3, (some .int), [])
theorem okX11_setLimit : pMIok mX11_setLimit := ⟨by decide +kernel, by decide, wd_1070⟩
theorem ceX11_setLimit : pCallee mX11_setLimit 1 := ⟨rfl, wd_1, by decide, by decide +kernel⟩
def mX11_offer : pMI := (yX11_offer, cX11_offer, 2, (some .int), [])
theorem okX11_offer : pMIok mX11_offer := ⟨by decide +kernel, by decide, wd_1078⟩
theorem ceX11_offer : pCallee mX11_offer 1 := ⟨rfl, wd_1, by decide, by decide +kernel⟩
def mX11_word : pMI := (yX11_word, cX11_word, 3, (some .int), [])
theorem okX11_word : pMIok mX11_word := ⟨by decide +kernel, by decide, wd_1085⟩
theorem ceX11_word : pCallee mX11_word 2 := ⟨rfl, wd_1, by decide, by decide +kernel⟩
def mX11_letter : pMI := (yX11_letter, cX11_letter, 3, (some .int), [])
theorem okX11_letter : pMIok mX11_letter := ⟨by decide +kernel, by decide, wd_1097⟩
theorem ceX11_letter : pCallee mX11_letter 2 := ⟨rfl, wd_1, by decide, by decide +kernel⟩
def mX11_near : pMI := (yX11_near, cX11_near, 3, (some .boolean), [])
theorem okX11_near : pMIok mX11_near := ⟨by decide +kernel, by decide, wd_720⟩
theorem ceX11_near : pCallee mX11_near 2 := ⟨rfl, wd_1, by decide, by decide +kernel⟩
def mX11_best : pMI := (yX11_best, cX11_best, 5, (some .int), [])
theorem okX11_best : pMIok mX11_best := ⟨by decide +kernel, by decide, wd_728⟩
theorem ceX11_best : pCallee mX11_best 0 := ⟨rfl, wd_1, by decide, by decide +kernel⟩
def mX11_strokes : pMI := (yX11_strokes, cX11_strokes, 4, (some .int), [])
theorem okX11_strokes : pMIok mX11_strokes := ⟨by decide +kernel, by decide, wd_1105⟩
theorem ceX11_strokes : pCallee mX11_strokes 1 := ⟨rfl, wd_1, by decide, by decide +kernel⟩
def mX11_needs : pMI := (yX11_needs, cX11_needs, 7, (some .int), [])
theorem okX11_needs : pMIok mX11_needs := ⟨by decide +kernel, by decide, wd_1121⟩
theorem ceX11_needs : pCallee mX11_needs 1 := ⟨rfl, wd_1, by decide, by decide +kernel⟩
def mX11_closest : pMI := (yX11_closest, cX11_closest, 5, (some .int), [])
theorem okX11_closest : pMIok mX11_closest := ⟨by decide +kernel, by decide, wd_1139⟩
theorem ceX11_closest : pCallee mX11_closest 1 := ⟨rfl, wd_1, by decide, by decide +kernel⟩
def mX11_mean : pMI := (yX11_mean, cX11_mean, 2, (some .double), [])
theorem okX11_mean : pMIok mX11_mean := ⟨by decide +kernel, by decide, wd_748⟩
theorem ceX11_mean : pCallee mX11_mean 0 := ⟨rfl, wd_1, by decide, by decide +kernel⟩
def mX11_digest : pMI := (yX11_digest, cX11_digest, 5, (some .long), [])
theorem okX11_digest : pMIok mX11_digest := ⟨by decide +kernel, by decide, wd_757⟩
theorem ceX11_digest : pCallee mX11_digest 0 := ⟨rfl, wd_1, by decide, by decide +kernel⟩
def mX11_isLetter : pMI := (yX11_isLetter, cX11_isLetter, 1, (some .boolean), [])
theorem okX11_isLetter : pMIok mX11_isLetter := ⟨by decide +kernel, by decide, wd_447⟩
theorem ceX11_isLetter : pCallee mX11_isLetter 1 := ⟨rfl, wd_1, by decide, by decide +kernel⟩
def mX11_isDigit : pMI := (yX11_isDigit, cX11_isDigit, 1, (some .boolean), [])
theorem okX11_isDigit : pMIok mX11_isDigit := ⟨by decide +kernel, by decide, wd_450⟩
theorem ceX11_isDigit : pCallee mX11_isDigit 1 := ⟨rfl, wd_1, by decide, by decide +kernel⟩
def mX11_appendBytes : pMI := (yX11_appendBytes, cX11_appendBytes, 3, none, [])
theorem okX11_appendBytes : pMIok mX11_appendBytes := ⟨by decide +kernel, by decide, wd_955⟩
theorem ceX11_appendBytes : pCallee mX11_appendBytes 1 := ⟨rfl, wd_1, by decide, by decide +kernel⟩
def mX11_rank : pMI := (yX11_rank, cX11_rank, 1, none, [])
theorem okX11_rank : pMIok mX11_rank := ⟨by decide +kernel, by decide, wd_761⟩
theorem ceX11_rank : pCallee mX11_rank 0 := ⟨rfl, wd_1, by decide, by decide +kernel⟩
def mX11_takeWord : pMI := (yX11_takeWord, cX11_takeWord, 2, none, [])
theorem okX11_takeWord : pMIok mX11_takeWord := ⟨by decide +kernel, by decide, wd_1041⟩
theorem ceX11_takeWord : pCallee mX11_takeWord 1 := ⟨rfl, wd_1, by decide, by decide +kernel⟩
def mX11_figure : pMI := (yX11_figure, cX11_figure, 2, (some .int), [])
theorem okX11_figure : pMIok mX11_figure := ⟨by decide +kernel, by decide, wd_833⟩
theorem ceX11_figure : pCallee mX11_figure 1 := ⟨rfl, wd_1, by decide, by decide +kernel⟩
def mX11_wordFigure : pMI := (yX11_wordFigure, cX11_wordFigure, 3, (some .int), [])
theorem okX11_wordFigure : pMIok mX11_wordFigure := ⟨by decide +kernel, by decide, wd_858⟩
theorem ceX11_wordFigure : pCallee mX11_wordFigure 2 := ⟨rfl, wd_1, by decide, by decide +kernel⟩
def mX12_init : pMI := (yX12_init, cX12_init, 1, none, [])
theorem okX12_init : pMIok mX12_init := ⟨by decide +kernel, by decide, wd_1174⟩
theorem ceX12_init : pCallee mX12_init 0 := ⟨rfl, wd_18, by decide, by decide +kernel⟩
def mX12_empty : pMI := (yX12_empty, cX12_empty, 2, none, [])
theorem okX12_empty : pMIok mX12_empty := ⟨by decide +kernel, by decide, wd_1243⟩
theorem ceX12_empty : pCallee mX12_empty 0 := ⟨rfl, wd_18, by decide, by decide +kernel⟩
def mX12_node : pMI := (yX12_node, cX12_node, 4, (some .int), [])
theorem okX12_node : pMIok mX12_node := ⟨by decide +kernel, by decide, wd_1452⟩
theorem ceX12_node : pCallee mX12_node 3 := ⟨rfl, wd_18, by decide, by decide +kernel⟩
def mX12_byteOf : pMI := (yX12_byteOf, cX12_byteOf, 3, (some .int), [])
theorem okX12_byteOf : pMIok mX12_byteOf := ⟨by decide +kernel, by decide, wd_1512⟩
theorem ceX12_byteOf : pCallee mX12_byteOf 2 := ⟨rfl, wd_18, by decide, by decide +kernel⟩
def mX13_thrown : pMI := (yX13_thrown, cX13_thrown, 1, (some .int), [])
theorem okX13_thrown : pMIok mX13_thrown := ⟨by decide +kernel, by decide, wd_1144⟩
theorem ceX13_thrown : pCallee mX13_thrown 0 := ⟨rfl, wd_17, by decide, by decide +kernel⟩
def mX13_no : pMI := (yX13_no, cX13_no, 2, (some .int), [])
theorem okX13_no : pMIok mX13_no := ⟨by decide +kernel, by decide, wd_1153⟩
theorem ceX13_no : pCallee mX13_no 1 := ⟨rfl, wd_17, by decide, by decide +kernel⟩
def mX13_isIn : pMI := (yX13_isIn, cX13_isIn, 3, (some .boolean), [])
theorem okX13_isIn : pMIok mX13_isIn := ⟨by decide +kernel, by decide, wd_1164⟩
theorem ceX13_isIn : pCallee mX13_isIn 3 := ⟨rfl, wd_17, by decide, by decide +kernel⟩
def mX13_feed : pMI := (yX13_feed, cX13_feed, 6, (some .int), [])
theorem okX13_feed : pMIok mX13_feed := ⟨by decide +kernel, by decide, wd_1148⟩
theorem ceX13_feed : pCallee mX13_feed 5 := ⟨rfl, wd_17, by decide, by decide +kernel⟩
def mX13_append : pMI := (yX13_append, cX13_append, 3, none, [])
theorem okX13_append : pMIok mX13_append := ⟨by decide +kernel, by decide, wd_1157⟩
theorem ceX13_append : pCallee mX13_append 1 := ⟨rfl, wd_17, by decide, by decide +kernel⟩
def mX13_trim : pMI := (yX13_trim, cX13_trim, 2, (some .int), [])
theorem okX13_trim : pMIok mX13_trim := ⟨by decide +kernel, by decide, wd_1161⟩
theorem ceX13_trim : pCallee mX13_trim 1 := ⟨rfl, wd_17, by decide, by decide +kernel⟩
def mX13_byteAt : pMI := (yX13_byteAt, cX13_byteAt, 2, (some .int), [])
theorem okX13_byteAt : pMIok mX13_byteAt := ⟨by decide +kernel, by decide, wd_1340⟩
theorem ceX13_byteAt : pCallee mX13_byteAt 1 := ⟨rfl, wd_17, by decide, by decide +kernel⟩
def mX13_isLetter : pMI := (yX13_isLetter, cX13_isLetter, 1, (some .boolean), [])
theorem okX13_isLetter : pMIok mX13_isLetter := ⟨by decide +kernel, by decide, wd_1347⟩
theorem ceX13_isLetter : pCallee mX13_isLetter 1 := ⟨rfl, wd_17, by decide, by decide +kernel⟩
def mX13_isDigit : pMI := (yX13_isDigit, cX13_isDigit, 1, (some .boolean), [])
theorem okX13_isDigit : pMIok mX13_isDigit := ⟨by decide +kernel, by decide, wd_1354⟩
theorem ceX13_isDigit : pCallee mX13_isDigit 1 := ⟨rfl, wd_17, by decide, by decide +kernel⟩
def mX13_split : pMI := (yX13_split, cX13_split, 4, none, [])
theorem okX13_split : pMIok mX13_split := ⟨by decide +kernel, by decide, wd_1336⟩
theorem ceX13_split : pCallee mX13_split 0 := ⟨rfl, wd_17, by decide, by decide +kernel⟩
def mX13_read : pMI := (yX13_read, cX13_read, 4, none, [])
theorem okX13_read : pMIok mX13_read := ⟨by decide +kernel, by decide, wd_1344⟩
theorem ceX13_read : pCallee mX13_read 2 := ⟨rfl, wd_17, by decide, by decide +kernel⟩
def mX13_readWord : pMI := (yX13_readWord, cX13_readWord, 5, none, [])
theorem okX13_readWord : pMIok mX13_readWord := ⟨by decide +kernel, by decide, wd_1351⟩
theorem ceX13_readWord : pCallee mX13_readWord 2 := ⟨rfl, wd_17, by decide, by decide +kernel⟩
def mX13_isWord : pMI := (yX13_isWord, cX13_isWord, 5, (some .boolean), [])
theorem okX13_isWord : pMIok mX13_isWord := ⟨by decide +kernel, by decide, wd_1360⟩
theorem ceX13_isWord : pCallee mX13_isWord 3 := ⟨rfl, wd_17, by decide, by decide +kernel⟩
def mX13_readNumber : pMI := (yX13_readNumber, cX13_readNumber, 5, none, [])
theorem okX13_readNumber : pMIok mX13_readNumber := ⟨by decide +kernel, by decide, wd_1366⟩
theorem ceX13_readNumber : pCallee mX13_readNumber 2 := ⟨rfl, wd_17, by decide, by decide +kernel⟩
def mX13_isSame : pMI := (yX13_isSame, cX13_isSame, 4, (some .boolean), [])
theorem okX13_isSame : pMIok mX13_isSame := ⟨by decide +kernel, by decide, wd_1402⟩
theorem ceX13_isSame : pCallee mX13_isSame 2 := ⟨rfl, wd_17, by decide, by decide +kernel⟩
def mX13_init : pMI := (yX13_init, cX13_init, 1, none, [])
theorem okX13_init : pMIok mX13_init := ⟨by decide +kernel, by decide, wd_1168⟩
theorem ceX13_init : pCallee mX13_init 0 := ⟨rfl, wd_17, by decide, by decide +kernel⟩
def mX13_fail : pMI := (yX13_fail, cX13_fail, 1, none, [])
theorem okX13_fail : pMIok mX13_fail := ⟨by decide +kernel, by decide, wd_1394⟩
theorem ceX13_fail : pCallee mX13_fail 0 := ⟨rfl, wd_17, by decide, by decide +kernel⟩
def mX13_isOk : pMI := (yX13_isOk, cX13_isOk, 1, (some .boolean), [])
theorem okX13_isOk : pMIok mX13_isOk := ⟨by decide +kernel, by decide, wd_1370⟩
theorem ceX13_isOk : pCallee mX13_isOk 0 := ⟨rfl, wd_17, by decide, by decide +kernel⟩
def mX13_is : pMI := (yX13_is, cX13_is, 3, (some .boolean), [])
theorem okX13_is : pMIok mX13_is := ⟨by decide +kernel, by decide, wd_1378⟩
theorem ceX13_is : pCallee mX13_is 2 := ⟨rfl, wd_17, by decide, by decide +kernel⟩
def mX13_take : pMI := (yX13_take, cX13_take, 3, none, [])
theorem okX13_take : pMIok mX13_take := ⟨by decide +kernel, by decide, wd_1414⟩
theorem ceX13_take : pCallee mX13_take 2 := ⟨rfl, wd_17, by decide, by decide +kernel⟩
def mX13_tell : pMI := (yX13_tell, cX13_tell, 3, none, [])
theorem okX13_tell : pMIok mX13_tell := ⟨by decide +kernel, by decide, wd_1406⟩
theorem ceX13_tell : pCallee mX13_tell 2 := ⟨rfl, wd_17, by decide, by decide +kernel⟩
def mX13_deeper : pMI := (yX13_deeper, cX13_deeper, 1, none, [])
theorem okX13_deeper : pMIok mX13_deeper := ⟨by decide +kernel, by decide, wd_1456⟩
theorem ceX13_deeper : pCallee mX13_deeper 0 := ⟨rfl, wd_17, by decide, by decide +kernel⟩
def mX13_name : pMI := (yX13_name, cX13_name, 1, (some .int), [])
theorem okX13_name : pMIok mX13_name := ⟨by decide +kernel, by decide, wd_1390⟩
theorem ceX13_name : pCallee mX13_name 0 := ⟨rfl, wd_17, by decide, by decide +kernel⟩
def mX13_find : pMI := (yX13_find, cX13_find, 5, (some .int), [])
theorem okX13_find : pMIok mX13_find := ⟨by decide +kernel, by decide, wd_1398⟩
theorem ceX13_find : pCallee mX13_find 3 := ⟨rfl, wd_17, by decide, by decide +kernel⟩
def mX13_known : pMI := (yX13_known, cX13_known, 5, (some .int), [])
theorem okX13_known : pMIok mX13_known := ⟨by decide +kernel, by decide, wd_1422⟩
theorem ceX13_known : pCallee mX13_known 2 := ⟨rfl, wd_17, by decide, by decide +kernel⟩
def mX13_fresh : pMI := (yX13_fresh, cX13_fresh, 5, (some .int), [])
theorem okX13_fresh : pMIok mX13_fresh := ⟨by decide +kernel, by decide, wd_1386⟩
theorem ceX13_fresh : pCallee mX13_fresh 3 := ⟨rfl, wd_17, by decide, by decide +kernel⟩
def mX13_number : pMI := (yX13_number, cX13_number, 3, (some .int), [])
theorem okX13_number : pMIok mX13_number := ⟨by decide +kernel, by decide, wd_1418⟩
theorem ceX13_number : pCallee mX13_number 2 := ⟨rfl, wd_17, by decide, by decide +kernel⟩
def mX13_sum : pMI := (yX13_sum, cX13_sum, 3, (some .int), [])
theorem okX13_sum : pMIok mX13_sum := ⟨by decide +kernel, by decide, wd_1439⟩
theorem ceX13_sum : pCallee mX13_sum 0 := ⟨rfl, wd_17, by decide, by decide +kernel⟩
def mX13_product : pMI := (yX13_product, cX13_product, 3, (some .int), [])
theorem okX13_product : pMIok mX13_product := ⟨by decide +kernel, by decide, wd_1443⟩
theorem ceX13_product : pCallee mX13_product 0 := ⟨rfl, wd_17, by decide, by decide +kernel⟩
def mX13_one : pMI := (yX13_one, cX13_one, 2, (some .int), [])
theorem okX13_one : pMIok mX13_one := ⟨by decide +kernel, by decide, wd_1447⟩
theorem ceX13_one : pCallee mX13_one 0 := ⟨rfl, wd_17, by decide, by decide +kernel⟩
def mX13_inner : pMI := (yX13_inner, cX13_inner, 2, (some .int), [])
theorem okX13_inner : pMIok mX13_inner := ⟨by decide +kernel, by decide, wd_1460⟩
theorem ceX13_inner : pCallee mX13_inner 0 := ⟨rfl, wd_17, by decide, by decide +kernel⟩
def mX13_both : pMI := (yX13_both, cX13_both, 4, (some .int), [])
theorem okX13_both : pMIok mX13_both := ⟨by decide +kernel, by decide, wd_1464⟩
theorem ceX13_both : pCallee mX13_both 1 := ⟨rfl, wd_17, by decide, by decide +kernel⟩
def mX13_test : pMI := (yX13_test, cX13_test, 2, (some .int), [])
theorem okX13_test : pMIok mX13_test := ⟨by decide +kernel, by decide, wd_1468⟩
theorem ceX13_test : pCallee mX13_test 0 := ⟨rfl, wd_17, by decide, by decide +kernel⟩
def mX13_pair : pMI := (yX13_pair, cX13_pair, 2, (some .int), [])
theorem okX13_pair : pMIok mX13_pair := ⟨by decide +kernel, by decide, wd_1472⟩
theorem ceX13_pair : pCallee mX13_pair 0 := ⟨rfl, wd_17, by decide, by decide +kernel⟩
def mX13_single : pMI := (yX13_single, cX13_single, 3, (some .int), [])
theorem okX13_single : pMIok mX13_single := ⟨by decide +kernel, by decide, wd_1476⟩
theorem ceX13_single : pCallee mX13_single 0 := ⟨rfl, wd_17, by decide, by decide +kernel⟩
def mX13_begins : pMI := (yX13_begins, cX13_begins, 4, (some .int), [])
theorem okX13_begins : pMIok mX13_begins := ⟨by decide +kernel, by decide, wd_1480⟩
theorem ceX13_begins : pCallee mX13_begins 0 := ⟨rfl, wd_17, by decide, by decide +kernel⟩
def mX13_line : pMI := (yX13_line, cX13_line, 1, none, [])
theorem okX13_line : pMIok mX13_line := ⟨by decide +kernel, by decide, wd_1374⟩
theorem ceX13_line : pCallee mX13_line 0 := ⟨rfl, wd_17, by decide, by decide +kernel⟩
def mX13_readTag : pMI := (yX13_readTag, cX13_readTag, 2, none, [])
theorem okX13_readTag : pMIok mX13_readTag := ⟨by decide +kernel, by decide, wd_1382⟩
theorem ceX13_readTag : pCallee mX13_readTag 0 := ⟨rfl, wd_17, by decide, by decide +kernel⟩
def mX13_readEntry : pMI := (yX13_readEntry, cX13_readEntry, 5, none, [])
theorem okX13_readEntry : pMIok mX13_readEntry := ⟨by decide +kernel, by decide, wd_1410⟩
theorem ceX13_readEntry : pCallee mX13_readEntry 0 := ⟨rfl, wd_17, by decide, by decide +kernel⟩
def mX13_readRows : pMI := (yX13_readRows, cX13_readRows, 1, none, [])
theorem okX13_readRows : pMIok mX13_readRows := ⟨by decide +kernel, by decide, wd_1426⟩
theorem ceX13_readRows : pCallee mX13_readRows 0 := ⟨rfl, wd_17, by decide, by decide +kernel⟩
def mX13_readRow : pMI := (yX13_readRow, cX13_readRow, 4, none, [])
theorem okX13_readRow : pMIok mX13_readRow := ⟨by decide +kernel, by decide, wd_1430⟩
theorem ceX13_readRow : pCallee mX13_readRow 0 := ⟨rfl, wd_17, by decide, by decide +kernel⟩
def mX13_readBoost : pMI := (yX13_readBoost, cX13_readBoost, 4, none, [])
theorem okX13_readBoost : pMIok mX13_readBoost := ⟨by decide +kernel, by decide, wd_1435⟩
theorem ceX13_readBoost : pCallee mX13_readBoost 0 := ⟨rfl, wd_17, by decide, by decide +kernel⟩
def mX13_teach : pMI := (yX13_teach, cX13_teach, 3, (some .int), [])
theorem okX13_teach : pMIok mX13_teach := ⟨by decide +kernel, by decide, wd_1332⟩
theorem ceX13_teach : pCallee mX13_teach 0 := ⟨rfl, wd_17, by decide, by decide +kernel⟩
def mX13_change : pMI := (yX13_change, cX13_change, 2, none, [])
theorem okX13_change : pMIok mX13_change := ⟨by decide +kernel, by decide, wd_1484⟩
theorem ceX13_change : pCallee mX13_change 0 := ⟨rfl, wd_17, by decide, by decide +kernel⟩
def mX13_errorAt : pMI := (yX13_errorAt, cX13_errorAt, 1, (some .int), [])
theorem okX13_errorAt : pMIok mX13_errorAt := ⟨by decide +kernel, by decide, wd_1488⟩
theorem ceX13_errorAt : pCallee mX13_errorAt 0 := ⟨rfl, wd_17, by decide, by decide +kernel⟩
def mX13_keyOf : pMI := (yX13_keyOf, cX13_keyOf, 2, (some .int), [])
theorem okX13_keyOf : pMIok mX13_keyOf := ⟨by decide +kernel, by decide, wd_1520⟩
theorem ceX13_keyOf : pCallee mX13_keyOf 1 := ⟨rfl, wd_17, by decide, by decide +kernel⟩
def mX13_isNear : pMI := (yX13_isNear, cX13_isNear, 7, (some .boolean), [])
theorem okX13_isNear : pMIok mX13_isNear := ⟨by decide +kernel, by decide, wd_1516⟩
theorem ceX13_isNear : pCallee mX13_isNear 2 := ⟨rfl, wd_17, by decide, by decide +kernel⟩
def mX13_farOf : pMI := (yX13_farOf, cX13_farOf, 7, (some .int), [])
theorem okX13_farOf : pMIok mX13_farOf := ⟨by decide +kernel, by decide, wd_1508⟩
theorem ceX13_farOf : pCallee mX13_farOf 1 := ⟨rfl, wd_17, by decide, by decide +kernel⟩
def mX13_reckon : pMI := (yX13_reckon, cX13_reckon, 5, (some .int), [])
theorem okX13_reckon : pMIok mX13_reckon := ⟨by decide +kernel, by decide, wd_1537⟩
theorem ceX13_reckon : pCallee mX13_reckon 2 := ⟨rfl, wd_17, by decide, by decide +kernel⟩
def mX13_parts : pMI := (yX13_parts, cX13_parts, 2, (some .int), [])
theorem okX13_parts : pMIok mX13_parts := ⟨by decide +kernel, by decide, wd_1540⟩
theorem ceX13_parts : pCallee mX13_parts 2 := ⟨rfl, wd_17, by decide, by decide +kernel⟩
def mX13_isBegun : pMI := (yX13_isBegun, cX13_isBegun, 4, (some .boolean), [])
theorem okX13_isBegun : pMIok mX13_isBegun := ⟨by decide +kernel, by decide, wd_1533⟩
theorem ceX13_isBegun : pCallee mX13_isBegun 2 := ⟨rfl, wd_17, by decide, by decide +kernel⟩
def mX13_holds : pMI := (yX13_holds, cX13_holds, 5, (some .boolean), [])
theorem okX13_holds : pMIok mX13_holds := ⟨by decide +kernel, by decide, wd_1529⟩
theorem ceX13_holds : pCallee mX13_holds 2 := ⟨rfl, wd_17, by decide, by decide +kernel⟩
def mX13_scoreOf : pMI := (yX13_scoreOf, cX13_scoreOf, 5, (some .int), [])
theorem okX13_scoreOf : pMIok mX13_scoreOf := ⟨by decide +kernel, by decide, wd_1525⟩
theorem ceX13_scoreOf : pCallee mX13_scoreOf 2 := ⟨rfl, wd_17, by decide, by decide +kernel⟩
def mX13_isAhead : pMI := (yX13_isAhead, cX13_isAhead, 4, (some .boolean), [])
theorem okX13_isAhead : pMIok mX13_isAhead := ⟨by decide +kernel, by decide, wd_1544⟩
theorem ceX13_isAhead : pCallee mX13_isAhead 3 := ⟨rfl, wd_17, by decide, by decide +kernel⟩
def mX13_look : pMI := (yX13_look, cX13_look, 3, none, [])
theorem okX13_look : pMIok mX13_look := ⟨by decide +kernel, by decide, wd_1504⟩
theorem ceX13_look : pCallee mX13_look 0 := ⟨rfl, wd_17, by decide, by decide +kernel⟩
def mX13_placeOf : pMI := (yX13_placeOf, cX13_placeOf, 3, (some .int), [])
theorem okX13_placeOf : pMIok mX13_placeOf := ⟨by decide +kernel, by decide, wd_1604⟩
theorem ceX13_placeOf : pCallee mX13_placeOf 1 := ⟨rfl, wd_17, by decide, by decide +kernel⟩
def mX13_type : pMI := (yX13_type, cX13_type, 2, (some .int), [])
theorem okX13_type : pMIok mX13_type := ⟨by decide +kernel, by decide, wd_1492⟩
theorem ceX13_type : pCallee mX13_type 1 := ⟨rfl, wd_17, by decide, by decide +kernel⟩
def mX13_back : pMI := (yX13_back, cX13_back, 1, (some .int), [])
theorem okX13_back : pMIok mX13_back := ⟨by decide +kernel, by decide, wd_1496⟩
theorem ceX13_back : pCallee mX13_back 0 := ⟨rfl, wd_17, by decide, by decide +kernel⟩
def mX13_choose : pMI := (yX13_choose, cX13_choose, 3, (some .int), [])
theorem okX13_choose : pMIok mX13_choose := ⟨by decide +kernel, by decide, wd_1548⟩
theorem ceX13_choose : pCallee mX13_choose 1 := ⟨rfl, wd_17, by decide, by decide +kernel⟩
def mX13_take_ : pMI := (yX13_take_, cX13_take_, 2, (some .int), [])
theorem okX13_take_ : pMIok mX13_take_ := ⟨by decide +kernel, by decide, wd_1500⟩
theorem ceX13_take_ : pCallee mX13_take_ 1 := ⟨rfl, wd_17, by decide, by decide +kernel⟩
def mX13_isBeginning : pMI := (yX13_isBeginning, cX13_isBeginning, 3, (some .boolean), [])
theorem okX13_isBeginning : pMIok mX13_isBeginning := ⟨by decide +kernel, by decide, wd_1556⟩
theorem ceX13_isBeginning : pCallee mX13_isBeginning 1 := ⟨rfl, wd_17, by decide, by decide +kernel⟩
def mX13_say : pMI := (yX13_say, cX13_say, 3, (some .int), [])
theorem okX13_say : pMIok mX13_say := ⟨by decide +kernel, by decide, wd_1552⟩
theorem ceX13_say : pCallee mX13_say 0 := ⟨rfl, wd_17, by decide, by decide +kernel⟩
def mX13_setLimit : pMI := (yX13_setLimit, cX13_setLimit, 3, (some .int), [])
theorem okX13_setLimit : pMIok mX13_setLimit := ⟨by decide +kernel, by decide, wd_1560⟩
theorem ceX13_setLimit : pCallee mX13_setLimit 1 := ⟨rfl, wd_17, by decide, by decide +kernel⟩
def mX13_weights : pMI := (yX13_weights, cX13_weights, 3, (some .int), [])
theorem okX13_weights : pMIok mX13_weights := ⟨by decide +kernel, by decide, wd_1572⟩
theorem ceX13_weights : pCallee mX13_weights 0 := ⟨rfl, wd_17, by decide, by decide +kernel⟩
def mX13_beginnings : pMI := (yX13_beginnings, cX13_beginnings, 3, (some .int), [])
theorem okX13_beginnings : pMIok mX13_beginnings := ⟨by decide +kernel, by decide, wd_1576⟩
theorem ceX13_beginnings : pCallee mX13_beginnings 0 := ⟨rfl, wd_17, by decide, by decide +kernel⟩
def mX13_shared : pMI := (yX13_shared, cX13_shared, 4, (some .int), [])
theorem okX13_shared : pMIok mX13_shared := ⟨by decide +kernel, by decide, wd_1584⟩
theorem ceX13_shared : pCallee mX13_shared 2 := ⟨rfl, wd_17, by decide, by decide +kernel⟩
def mX13_nodes : pMI := (yX13_nodes, cX13_nodes, 5, (some .int), [])
theorem okX13_nodes : pMIok mX13_nodes := ⟨by decide +kernel, by decide, wd_1580⟩
theorem ceX13_nodes : pCallee mX13_nodes 0 := ⟨rfl, wd_17, by decide, by decide +kernel⟩
def mX13_counted : pMI := (yX13_counted, cX13_counted, 2, (some .int), [])
theorem okX13_counted : pMIok mX13_counted := ⟨by decide +kernel, by decide, wd_1568⟩
theorem ceX13_counted : pCallee mX13_counted 1 := ⟨rfl, wd_17, by decide, by decide +kernel⟩
def mX13_count : pMI := (yX13_count, cX13_count, 2, (some .int), [])
theorem okX13_count : pMIok mX13_count := ⟨by decide +kernel, by decide, wd_1564⟩
theorem ceX13_count : pCallee mX13_count 1 := ⟨rfl, wd_17, by decide, by decide +kernel⟩
def mX13_offer : pMI := (yX13_offer, cX13_offer, 2, (some .int), [])
theorem okX13_offer : pMIok mX13_offer := ⟨by decide +kernel, by decide, wd_1588⟩
theorem ceX13_offer : pCallee mX13_offer 1 := ⟨rfl, wd_17, by decide, by decide +kernel⟩
def mX13_isThere : pMI := (yX13_isThere, cX13_isThere, 2, (some .boolean), [])
theorem okX13_isThere : pMIok mX13_isThere := ⟨by decide +kernel, by decide, wd_1596⟩
theorem ceX13_isThere : pCallee mX13_isThere 1 := ⟨rfl, wd_17, by decide, by decide +kernel⟩
def mX13_wordTold : pMI := (yX13_wordTold, cX13_wordTold, 3, (some .int), [])
theorem okX13_wordTold : pMIok mX13_wordTold := ⟨by decide +kernel, by decide, wd_1600⟩
theorem ceX13_wordTold : pCallee mX13_wordTold 2 := ⟨rfl, wd_17, by decide, by decide +kernel⟩
def mX13_word : pMI := (yX13_word, cX13_word, 3, (some .int), [])
theorem okX13_word : pMIok mX13_word := ⟨by decide +kernel, by decide, wd_1592⟩
theorem ceX13_word : pCallee mX13_word 2 := ⟨rfl, wd_17, by decide, by decide +kernel⟩
def mX13_letter : pMI := (yX13_letter, cX13_letter, 3, (some .int), [])
theorem okX13_letter : pMIok mX13_letter := ⟨by decide +kernel, by decide, wd_1608⟩
theorem ceX13_letter : pCallee mX13_letter 2 := ⟨rfl, wd_17, by decide, by decide +kernel⟩
def mX13_near : pMI := (yX13_near, cX13_near, 3, (some .boolean), [])
theorem okX13_near : pMIok mX13_near := ⟨by decide +kernel, by decide, wd_1612⟩
theorem ceX13_near : pCallee mX13_near 2 := ⟨rfl, wd_17, by decide, by decide +kernel⟩
def mX13_best : pMI := (yX13_best, cX13_best, 5, (some .int), [])
theorem okX13_best : pMIok mX13_best := ⟨by decide +kernel, by decide, wd_1616⟩
theorem ceX13_best : pCallee mX13_best 0 := ⟨rfl, wd_17, by decide, by decide +kernel⟩
def mX13_weightsWith : pMI := (yX13_weightsWith, cX13_weightsWith, 4, (some .int), [])
theorem okX13_weightsWith : pMIok mX13_weightsWith := ⟨by decide +kernel, by decide, wd_1620⟩
theorem ceX13_weightsWith : pCallee mX13_weightsWith 1 := ⟨rfl, wd_17, by decide, by decide +kernel⟩
def mX13_putAside : pMI := (yX13_putAside, cX13_putAside, 1, none, [])
theorem okX13_putAside : pMIok mX13_putAside := ⟨by decide +kernel, by decide, wd_1628⟩
theorem ceX13_putAside : pCallee mX13_putAside 0 := ⟨rfl, wd_17, by decide, by decide +kernel⟩
def mX13_putBack : pMI := (yX13_putBack, cX13_putBack, 2, none, [])
theorem okX13_putBack : pMIok mX13_putBack := ⟨by decide +kernel, by decide, wd_1639⟩
theorem ceX13_putBack : pCallee mX13_putBack 1 := ⟨rfl, wd_17, by decide, by decide +kernel⟩
def mX13_strokes : pMI := (yX13_strokes, cX13_strokes, 4, (some .int), [])
theorem okX13_strokes : pMIok mX13_strokes := ⟨by decide +kernel, by decide, wd_1624⟩
theorem ceX13_strokes : pCallee mX13_strokes 1 := ⟨rfl, wd_17, by decide, by decide +kernel⟩
def mX13_strokesOf : pMI := (yX13_strokesOf, cX13_strokesOf, 3, (some .int), [])
theorem okX13_strokesOf : pMIok mX13_strokesOf := ⟨by decide +kernel, by decide, wd_1635⟩
theorem ceX13_strokesOf : pCallee mX13_strokesOf 1 := ⟨rfl, wd_17, by decide, by decide +kernel⟩
def mX13_needs : pMI := (yX13_needs, cX13_needs, 4, (some .int), [])
theorem okX13_needs : pMIok mX13_needs := ⟨by decide +kernel, by decide, wd_1643⟩
theorem ceX13_needs : pCallee mX13_needs 1 := ⟨rfl, wd_17, by decide, by decide +kernel⟩
def mX13_closest : pMI := (yX13_closest, cX13_closest, 6, (some .int), [])
theorem okX13_closest : pMIok mX13_closest := ⟨by decide +kernel, by decide, wd_1647⟩
theorem ceX13_closest : pCallee mX13_closest 1 := ⟨rfl, wd_17, by decide, by decide +kernel⟩
def mX13_mean : pMI := (yX13_mean, cX13_mean, 1, (some .double), [])
theorem okX13_mean : pMIok mX13_mean := ⟨by decide +kernel, by decide, wd_1651⟩
theorem ceX13_mean : pCallee mX13_mean 0 := ⟨rfl, wd_17, by decide, by decide +kernel⟩
def mX13_digest : pMI := (yX13_digest, cX13_digest, 5, (some .long), [])
theorem okX13_digest : pMIok mX13_digest := ⟨by decide +kernel, by decide, wd_1655⟩
theorem ceX13_digest : pCallee mX13_digest 0 := ⟨rfl, wd_17, by decide, by decide +kernel⟩
def mL_feed : pMI := (yL_feed, cL_feed, 8, (some .int), [(0, 16, 19, 13)])
theorem okL_feed : pMIok mL_feed := ⟨by decide +kernel, by decide, wd_879⟩
def mL_trim : pMI := (yL_trim, cL_trim, 4, (some .int), [(0, 9, 12, 19)])
theorem okL_trim : pMIok mL_trim := ⟨by decide +kernel, by decide, wd_959⟩
def mL_count : pMI := (yL_count, cL_count, 4, (some .int), [(0, 9, 12, 24)])
theorem okL_count : pMIok mL_count := ⟨by decide +kernel, by decide, wd_987⟩
def mL_type : pMI := (yL_type, cL_type, 4, (some .int), [(0, 9, 12, 19), (0, 9, 15, 13)])
theorem okL_type : pMIok mL_type := ⟨by decide +kernel, by decide, wd_1011⟩
def mL_back : pMI := (yL_back, cL_back, 3, (some .int), [(0, 8, 11, 13)])
theorem okL_back : pMIok mL_back := ⟨by decide +kernel, by decide, wd_1022⟩
def mL_take : pMI := (yL_take, cL_take, 4, (some .int), [(0, 9, 12, 24), (0, 9, 15, 13)])
theorem okL_take : pMIok mL_take := ⟨by decide +kernel, by decide, wd_1031⟩
def mL_say : pMI := (yL_say, cL_say, 3, (some .int), [(0, 8, 11, 13)])
theorem okL_say : pMIok mL_say := ⟨by decide +kernel, by decide, wd_1051⟩
def mL_setLimit : pMI := (yL_setLimit, cL_setLimit, 4, (some .int), [(0, 9, 12, 19)])
theorem okL_setLimit : pMIok mL_setLimit := ⟨by decide +kernel, by decide, wd_1066⟩
def mL_offer : pMI := (yL_offer, cL_offer, 4, (some .int), [(0, 9, 12, 24)])
theorem okL_offer : pMIok mL_offer := ⟨by decide +kernel, by decide, wd_1074⟩
def mL_word : pMI := (yL_word, cL_word, 5, (some .int), [(0, 10, 13, 24)])
theorem okL_word : pMIok mL_word := ⟨by decide +kernel, by decide, wd_1081⟩
def mL_letter : pMI := (yL_letter, cL_letter, 5, (some .int), [(0, 10, 13, 24)])
theorem okL_letter : pMIok mL_letter := ⟨by decide +kernel, by decide, wd_1093⟩
def mL_strokes : pMI := (yL_strokes, cL_strokes, 4, (some .int), [(0, 9, 12, 24)])
theorem okL_strokes : pMIok mL_strokes := ⟨by decide +kernel, by decide, wd_1101⟩
def mL_needs : pMI := (yL_needs, cL_needs, 4, (some .int), [(0, 9, 12, 24)])
theorem okL_needs : pMIok mL_needs := ⟨by decide +kernel, by decide, wd_1117⟩
def mL_closest : pMI := (yL_closest, cL_closest, 4, (some .int), [(0, 9, 12, 24)])
theorem okL_closest : pMIok mL_closest := ⟨by decide +kernel, by decide, wd_1135⟩
def mL_law : pMI := (yL_law, cL_law, 9, (some .boolean), [])
theorem selX0_addWord : Cond.selects yX0_addWord.cls yX0_addWord yX0_addWord ∈ pTs := pTs_in wd_676
theorem selX0_allWeights : Cond.selects yX0_allWeights.cls yX0_allWeights yX0_allWeights ∈ pTs := pTs_in wd_752
theorem selX0_clear : Cond.selects yX0_clear.cls yX0_clear yX0_clear ∈ pTs := pTs_in wd_419
theorem selX0_fade : Cond.selects yX0_fade.cls yX0_fade yX0_fade ∈ pTs := pTs_in wd_1046
theorem selX0_hasWord : Cond.selects yX0_hasWord.cls yX0_hasWord yX0_hasWord ∈ pTs := pTs_in wd_1088
theorem selX0_trieNodes : Cond.selects yX0_trieNodes.cls yX0_trieNodes yX0_trieNodes ∈ pTs := pTs_in wd_847
theorem selX0_weightBehind : Cond.selects yX0_weightBehind.cls yX0_weightBehind yX0_weightBehind ∈ pTs := pTs_in wd_731
theorem selX0_wordsThatBegin : Cond.selects yX0_wordsThatBegin.cls yX0_wordsThatBegin yX0_wordsThatBegin ∈ pTs := pTs_in wd_843
theorem selX10_kind : Cond.selects yX10_kind.cls yX10_kind yX10_kind ∈ pTs := pTs_in wd_645
theorem selX10_kindAt : Cond.selects yX10_kindAt.cls yX10_kindAt yX10_kindAt ∈ pTs := sel_priv 0 (by decide +kernel)
theorem selX10_number : Cond.selects yX10_number.cls yX10_number yX10_number ∈ pTs := pTs_in wd_597
theorem selX10_read : Cond.selects yX10_read.cls yX10_read yX10_read ∈ pTs := pTs_in wd_435
theorem selX10_size : Cond.selects yX10_size.cls yX10_size yX10_size ∈ pTs := pTs_in wd_637
theorem selX10_spell : Cond.selects yX10_spell.cls yX10_spell yX10_spell ∈ pTs := pTs_in wd_666
theorem selX10_start : Cond.selects yX10_start.cls yX10_start yX10_start ∈ pTs := pTs_in wd_632
theorem selX11_appendBytes : Cond.selects yX11_appendBytes.cls yX11_appendBytes yX11_appendBytes ∈ pTs := sel_priv 25 (by decide +kernel)
theorem selX11_back : Cond.selects yX11_back.cls yX11_back yX11_back ∈ pTs := pTs_in wd_1025
theorem selX11_best : Cond.selects yX11_best.cls yX11_best yX11_best ∈ pTs := pTs_in wd_727
theorem selX11_closest : Cond.selects yX11_closest.cls yX11_closest yX11_closest ∈ pTs := pTs_in wd_1138
theorem selX11_count : Cond.selects yX11_count.cls yX11_count yX11_count ∈ pTs := pTs_in wd_991
theorem selX11_digest : Cond.selects yX11_digest.cls yX11_digest yX11_digest ∈ pTs := pTs_in wd_756
theorem selX11_errorAt : Cond.selects yX11_errorAt.cls yX11_errorAt yX11_errorAt ∈ pTs := pTs_in wd_715
theorem selX11_feed : Cond.selects yX11_feed.cls yX11_feed yX11_feed ∈ pTs := pTs_in wd_883
theorem selX11_figure : Cond.selects yX11_figure.cls yX11_figure yX11_figure ∈ pTs := sel_priv 22 (by decide +kernel)
theorem selX11_letter : Cond.selects yX11_letter.cls yX11_letter yX11_letter ∈ pTs := pTs_in wd_1096
theorem selX11_mean : Cond.selects yX11_mean.cls yX11_mean yX11_mean ∈ pTs := pTs_in wd_747
theorem selX11_near : Cond.selects yX11_near.cls yX11_near yX11_near ∈ pTs := pTs_in wd_719
theorem selX11_needs : Cond.selects yX11_needs.cls yX11_needs yX11_needs ∈ pTs := pTs_in wd_1120
theorem selX11_offer : Cond.selects yX11_offer.cls yX11_offer yX11_offer ∈ pTs := pTs_in wd_1077
theorem selX11_rank : Cond.selects yX11_rank.cls yX11_rank yX11_rank ∈ pTs := sel_priv 17 (by decide +kernel)
theorem selX11_say : Cond.selects yX11_say.cls yX11_say yX11_say ∈ pTs := pTs_in wd_1054
theorem selX11_setLimit : Cond.selects yX11_setLimit.cls yX11_setLimit yX11_setLimit ∈ pTs := pTs_in wd_1069
theorem selX11_strokes : Cond.selects yX11_strokes.cls yX11_strokes yX11_strokes ∈ pTs := pTs_in wd_1104
theorem selX11_take : Cond.selects yX11_take.cls yX11_take yX11_take ∈ pTs := pTs_in wd_1034
theorem selX11_takeWord : Cond.selects yX11_takeWord.cls yX11_takeWord yX11_takeWord ∈ pTs := sel_priv 26 (by decide +kernel)
theorem selX11_teach : Cond.selects yX11_teach.cls yX11_teach yX11_teach ∈ pTs := pTs_in wd_411
theorem selX11_trim : Cond.selects yX11_trim.cls yX11_trim yX11_trim ∈ pTs := pTs_in wd_963
theorem selX11_type : Cond.selects yX11_type.cls yX11_type yX11_type ∈ pTs := pTs_in wd_1014
theorem selX11_word : Cond.selects yX11_word.cls yX11_word yX11_word ∈ pTs := pTs_in wd_1084
theorem selX11_wordFigure : Cond.selects yX11_wordFigure.cls yX11_wordFigure yX11_wordFigure ∈ pTs := sel_priv 23 (by decide +kernel)
theorem selX12_byteOf : Cond.selects yX12_byteOf.cls yX12_byteOf yX12_byteOf ∈ pTs := pTs_in wd_1511
theorem selX12_empty : Cond.selects yX12_empty.cls yX12_empty yX12_empty ∈ pTs := pTs_in wd_1242
theorem selX12_node : Cond.selects yX12_node.cls yX12_node yX12_node ∈ pTs := pTs_in wd_1451
theorem selX13_append : Cond.selects yX13_append.cls yX13_append yX13_append ∈ pTs := sel_priv 28 (by decide +kernel)
theorem selX13_back : Cond.selects yX13_back.cls yX13_back yX13_back ∈ pTs := pTs_in wd_1495
theorem selX13_beginnings : Cond.selects yX13_beginnings.cls yX13_beginnings yX13_beginnings ∈ pTs := sel_priv 76 (by decide +kernel)
theorem selX13_begins : Cond.selects yX13_begins.cls yX13_begins yX13_begins ∈ pTs := sel_priv 61 (by decide +kernel)
theorem selX13_best : Cond.selects yX13_best.cls yX13_best yX13_best ∈ pTs := pTs_in wd_1615
theorem selX13_both : Cond.selects yX13_both.cls yX13_both yX13_both ∈ pTs := sel_priv 57 (by decide +kernel)
theorem selX13_byteAt : Cond.selects yX13_byteAt.cls yX13_byteAt yX13_byteAt ∈ pTs := sel_priv 30 (by decide +kernel)
theorem selX13_change : Cond.selects yX13_change.cls yX13_change yX13_change ∈ pTs := sel_priv 62 (by decide +kernel)
theorem selX13_choose : Cond.selects yX13_choose.cls yX13_choose yX13_choose ∈ pTs := sel_priv 72 (by decide +kernel)
theorem selX13_closest : Cond.selects yX13_closest.cls yX13_closest yX13_closest ∈ pTs := pTs_in wd_1646
theorem selX13_count : Cond.selects yX13_count.cls yX13_count yX13_count ∈ pTs := pTs_in wd_1563
theorem selX13_counted : Cond.selects yX13_counted.cls yX13_counted yX13_counted ∈ pTs := sel_priv 74 (by decide +kernel)
theorem selX13_deeper : Cond.selects yX13_deeper.cls yX13_deeper yX13_deeper ∈ pTs := sel_priv 55 (by decide +kernel)
theorem selX13_digest : Cond.selects yX13_digest.cls yX13_digest yX13_digest ∈ pTs := pTs_in wd_1654
theorem selX13_errorAt : Cond.selects yX13_errorAt.cls yX13_errorAt yX13_errorAt ∈ pTs := pTs_in wd_1487
theorem selX13_fail : Cond.selects yX13_fail.cls yX13_fail yX13_fail ∈ pTs := sel_priv 41 (by decide +kernel)
theorem selX13_farOf : Cond.selects yX13_farOf.cls yX13_farOf yX13_farOf ∈ pTs := sel_priv 64 (by decide +kernel)
theorem selX13_feed : Cond.selects yX13_feed.cls yX13_feed yX13_feed ∈ pTs := pTs_in wd_1147
theorem selX13_find : Cond.selects yX13_find.cls yX13_find yX13_find ∈ pTs := sel_priv 42 (by decide +kernel)
theorem selX13_fresh : Cond.selects yX13_fresh.cls yX13_fresh yX13_fresh ∈ pTs := sel_priv 39 (by decide +kernel)
theorem selX13_holds : Cond.selects yX13_holds.cls yX13_holds yX13_holds ∈ pTs := sel_priv 68 (by decide +kernel)
theorem selX13_inner : Cond.selects yX13_inner.cls yX13_inner yX13_inner ∈ pTs := sel_priv 56 (by decide +kernel)
theorem selX13_is : Cond.selects yX13_is.cls yX13_is yX13_is ∈ pTs := sel_priv 37 (by decide +kernel)
theorem selX13_isAhead : Cond.selects yX13_isAhead.cls yX13_isAhead yX13_isAhead ∈ pTs := sel_priv 71 (by decide +kernel)
theorem selX13_isBeginning : Cond.selects yX13_isBeginning.cls yX13_isBeginning yX13_isBeginning ∈ pTs := sel_priv 73 (by decide +kernel)
theorem selX13_isBegun : Cond.selects yX13_isBegun.cls yX13_isBegun yX13_isBegun ∈ pTs := sel_priv 69 (by decide +kernel)
theorem selX13_isNear : Cond.selects yX13_isNear.cls yX13_isNear yX13_isNear ∈ pTs := sel_priv 65 (by decide +kernel)
theorem selX13_isOk : Cond.selects yX13_isOk.cls yX13_isOk yX13_isOk ∈ pTs := sel_priv 35 (by decide +kernel)
theorem selX13_isSame : Cond.selects yX13_isSame.cls yX13_isSame yX13_isSame ∈ pTs := sel_priv 43 (by decide +kernel)
theorem selX13_isThere : Cond.selects yX13_isThere.cls yX13_isThere yX13_isThere ∈ pTs := sel_priv 79 (by decide +kernel)
theorem selX13_isWord : Cond.selects yX13_isWord.cls yX13_isWord yX13_isWord ∈ pTs := sel_priv 33 (by decide +kernel)
theorem selX13_keyOf : Cond.selects yX13_keyOf.cls yX13_keyOf yX13_keyOf ∈ pTs := sel_priv 66 (by decide +kernel)
theorem selX13_known : Cond.selects yX13_known.cls yX13_known yX13_known ∈ pTs := sel_priv 48 (by decide +kernel)
theorem selX13_letter : Cond.selects yX13_letter.cls yX13_letter yX13_letter ∈ pTs := pTs_in wd_1607
theorem selX13_line : Cond.selects yX13_line.cls yX13_line yX13_line ∈ pTs := sel_priv 36 (by decide +kernel)
theorem selX13_look : Cond.selects yX13_look.cls yX13_look yX13_look ∈ pTs := sel_priv 63 (by decide +kernel)
theorem selX13_mean : Cond.selects yX13_mean.cls yX13_mean yX13_mean ∈ pTs := pTs_in wd_1650
theorem selX13_name : Cond.selects yX13_name.cls yX13_name yX13_name ∈ pTs := sel_priv 40 (by decide +kernel)
theorem selX13_near : Cond.selects yX13_near.cls yX13_near yX13_near ∈ pTs := pTs_in wd_1611
theorem selX13_needs : Cond.selects yX13_needs.cls yX13_needs yX13_needs ∈ pTs := pTs_in wd_1642
theorem selX13_no : Cond.selects yX13_no.cls yX13_no yX13_no ∈ pTs := sel_priv 27 (by decide +kernel)
theorem selX13_nodes : Cond.selects yX13_nodes.cls yX13_nodes yX13_nodes ∈ pTs := sel_priv 77 (by decide +kernel)
theorem selX13_number : Cond.selects yX13_number.cls yX13_number yX13_number ∈ pTs := sel_priv 47 (by decide +kernel)
theorem selX13_offer : Cond.selects yX13_offer.cls yX13_offer yX13_offer ∈ pTs := pTs_in wd_1587
theorem selX13_one : Cond.selects yX13_one.cls yX13_one yX13_one ∈ pTs := sel_priv 54 (by decide +kernel)
theorem selX13_pair : Cond.selects yX13_pair.cls yX13_pair yX13_pair ∈ pTs := sel_priv 59 (by decide +kernel)
theorem selX13_placeOf : Cond.selects yX13_placeOf.cls yX13_placeOf yX13_placeOf ∈ pTs := sel_priv 81 (by decide +kernel)
theorem selX13_product : Cond.selects yX13_product.cls yX13_product yX13_product ∈ pTs := sel_priv 53 (by decide +kernel)
theorem selX13_putAside : Cond.selects yX13_putAside.cls yX13_putAside yX13_putAside ∈ pTs := sel_priv 83 (by decide +kernel)
theorem selX13_putBack : Cond.selects yX13_putBack.cls yX13_putBack yX13_putBack ∈ pTs := sel_priv 85 (by decide +kernel)
theorem selX13_read : Cond.selects yX13_read.cls yX13_read yX13_read ∈ pTs := sel_priv 31 (by decide +kernel)
theorem selX13_readBoost : Cond.selects yX13_readBoost.cls yX13_readBoost yX13_readBoost ∈ pTs := sel_priv 51 (by decide +kernel)
theorem selX13_readEntry : Cond.selects yX13_readEntry.cls yX13_readEntry yX13_readEntry ∈ pTs := sel_priv 45 (by decide +kernel)
theorem selX13_readNumber : Cond.selects yX13_readNumber.cls yX13_readNumber yX13_readNumber ∈ pTs := sel_priv 34 (by decide +kernel)
theorem selX13_readRow : Cond.selects yX13_readRow.cls yX13_readRow yX13_readRow ∈ pTs := sel_priv 50 (by decide +kernel)
theorem selX13_readRows : Cond.selects yX13_readRows.cls yX13_readRows yX13_readRows ∈ pTs := sel_priv 49 (by decide +kernel)
theorem selX13_readTag : Cond.selects yX13_readTag.cls yX13_readTag yX13_readTag ∈ pTs := sel_priv 38 (by decide +kernel)
theorem selX13_readWord : Cond.selects yX13_readWord.cls yX13_readWord yX13_readWord ∈ pTs := sel_priv 32 (by decide +kernel)
theorem selX13_reckon : Cond.selects yX13_reckon.cls yX13_reckon yX13_reckon ∈ pTs := sel_priv 70 (by decide +kernel)
theorem selX13_say : Cond.selects yX13_say.cls yX13_say yX13_say ∈ pTs := pTs_in wd_1551
theorem selX13_scoreOf : Cond.selects yX13_scoreOf.cls yX13_scoreOf yX13_scoreOf ∈ pTs := sel_priv 67 (by decide +kernel)
theorem selX13_setLimit : Cond.selects yX13_setLimit.cls yX13_setLimit yX13_setLimit ∈ pTs := pTs_in wd_1559
theorem selX13_shared : Cond.selects yX13_shared.cls yX13_shared yX13_shared ∈ pTs := sel_priv 78 (by decide +kernel)
theorem selX13_single : Cond.selects yX13_single.cls yX13_single yX13_single ∈ pTs := sel_priv 60 (by decide +kernel)
theorem selX13_split : Cond.selects yX13_split.cls yX13_split yX13_split ∈ pTs := sel_priv 29 (by decide +kernel)
theorem selX13_strokes : Cond.selects yX13_strokes.cls yX13_strokes yX13_strokes ∈ pTs := pTs_in wd_1623
theorem selX13_strokesOf : Cond.selects yX13_strokesOf.cls yX13_strokesOf yX13_strokesOf ∈ pTs := sel_priv 84 (by decide +kernel)
theorem selX13_sum : Cond.selects yX13_sum.cls yX13_sum yX13_sum ∈ pTs := sel_priv 52 (by decide +kernel)
theorem selX13_take : Cond.selects yX13_take.cls yX13_take yX13_take ∈ pTs := sel_priv 46 (by decide +kernel)
theorem selX13_take_ : Cond.selects yX13_take_.cls yX13_take_ yX13_take_ ∈ pTs := pTs_in wd_1499
theorem selX13_teach : Cond.selects yX13_teach.cls yX13_teach yX13_teach ∈ pTs := pTs_in wd_1331
theorem selX13_tell : Cond.selects yX13_tell.cls yX13_tell yX13_tell ∈ pTs := sel_priv 44 (by decide +kernel)
theorem selX13_test : Cond.selects yX13_test.cls yX13_test yX13_test ∈ pTs := sel_priv 58 (by decide +kernel)
theorem selX13_thrown : Cond.selects yX13_thrown.cls yX13_thrown yX13_thrown ∈ pTs := pTs_in wd_1143
theorem selX13_trim : Cond.selects yX13_trim.cls yX13_trim yX13_trim ∈ pTs := pTs_in wd_1160
theorem selX13_type : Cond.selects yX13_type.cls yX13_type yX13_type ∈ pTs := pTs_in wd_1491
theorem selX13_weights : Cond.selects yX13_weights.cls yX13_weights yX13_weights ∈ pTs := sel_priv 75 (by decide +kernel)
theorem selX13_weightsWith : Cond.selects yX13_weightsWith.cls yX13_weightsWith yX13_weightsWith ∈ pTs := sel_priv 82 (by decide +kernel)
theorem selX13_word : Cond.selects yX13_word.cls yX13_word yX13_word ∈ pTs := pTs_in wd_1591
theorem selX13_wordTold : Cond.selects yX13_wordTold.cls yX13_wordTold yX13_wordTold ∈ pTs := sel_priv 80 (by decide +kernel)
theorem selX1_addStep : Cond.selects yX1_addStep.cls yX1_addStep yX1_addStep ∈ pTs := pTs_in wd_601
theorem selX1_clear : Cond.selects yX1_clear.cls yX1_clear yX1_clear ∈ pTs := pTs_in wd_429
theorem selX1_end : Cond.selects yX1_end.cls yX1_end yX1_end ∈ pTs := pTs_in wd_628
theorem selX1_link : Cond.selects yX1_link.cls yX1_link yX1_link ∈ pTs := pTs_in wd_699
theorem selX1_size : Cond.selects yX1_size.cls yX1_size yX1_size ∈ pTs := pTs_in wd_789
theorem selX1_startSum : Cond.selects yX1_startSum.cls yX1_startSum yX1_startSum ∈ pTs := pTs_in wd_579
theorem selX1_startTest : Cond.selects yX1_startTest.cls yX1_startTest yX1_startTest ∈ pTs := pTs_in wd_609
theorem selX2_boost : Cond.selects yX2_boost.cls yX2_boost yX2_boost ∈ pTs := sel_priv 5 (by decide +kernel)
theorem selX2_both : Cond.selects yX2_both.cls yX2_both yX2_both ∈ pTs := sel_priv 11 (by decide +kernel)
theorem selX2_is : Cond.selects yX2_is.cls yX2_is yX2_is ∈ pTs := sel_priv 1 (by decide +kernel)
theorem selX2_keyRows : Cond.selects yX2_keyRows.cls yX2_keyRows yX2_keyRows ∈ pTs := sel_priv 4 (by decide +kernel)
theorem selX2_ofTwo : Cond.selects yX2_ofTwo.cls yX2_ofTwo yX2_ofTwo ∈ pTs := sel_priv 9 (by decide +kernel)
theorem selX2_product : Cond.selects yX2_product.cls yX2_product yX2_product ∈ pTs := sel_priv 7 (by decide +kernel)
theorem selX2_read : Cond.selects yX2_read.cls yX2_read yX2_read ∈ pTs := pTs_in wd_554
theorem selX2_single : Cond.selects yX2_single.cls yX2_single yX2_single ∈ pTs := sel_priv 12 (by decide +kernel)
theorem selX2_skip : Cond.selects yX2_skip.cls yX2_skip yX2_skip ∈ pTs := sel_priv 2 (by decide +kernel)
theorem selX2_sum : Cond.selects yX2_sum.cls yX2_sum yX2_sum ∈ pTs := sel_priv 6 (by decide +kernel)
theorem selX2_test : Cond.selects yX2_test.cls yX2_test yX2_test ∈ pTs := sel_priv 10 (by decide +kernel)
theorem selX2_value : Cond.selects yX2_value.cls yX2_value yX2_value ∈ pTs := sel_priv 8 (by decide +kernel)
theorem selX2_wordLine : Cond.selects yX2_wordLine.cls yX2_wordLine yX2_wordLine ∈ pTs := sel_priv 3 (by decide +kernel)
theorem selX3_forget : Cond.selects yX3_forget.cls yX3_forget yX3_forget ∈ pTs := pTs_in wd_710
theorem selX3_supposeNothingTyped : Cond.selects yX3_supposeNothingTyped.cls yX3_supposeNothingTyped yX3_supposeNothingTyped ∈ pTs := pTs_in wd_1109
theorem selX4_addRow : Cond.selects yX4_addRow.cls yX4_addRow yX4_addRow ∈ pTs := pTs_in wd_691
theorem selX4_areNeighbours : Cond.selects yX4_areNeighbours.cls yX4_areNeighbours yX4_areNeighbours ∈ pTs := pTs_in wd_723
theorem selX4_clear : Cond.selects yX4_clear.cls yX4_clear yX4_clear ∈ pTs := pTs_in wd_210
theorem selX4_rows : Cond.selects yX4_rows.cls yX4_rows yX4_rows ∈ pTs := pTs_in wd_687
theorem selX5_add : Cond.selects yX5_add.cls yX5_add yX5_add ∈ pTs := pTs_in wd_142
theorem selX5_at : Cond.selects yX5_at.cls yX5_at yX5_at ∈ pTs := pTs_in wd_736
theorem selX5_clear : Cond.selects yX5_clear.cls yX5_clear yX5_clear ∈ pTs := pTs_in wd_423
theorem selX5_find : Cond.selects yX5_find.cls yX5_find yX5_find ∈ pTs := pTs_in wd_461
theorem selX5_isFull : Cond.selects yX5_isFull.cls yX5_isFull yX5_isFull ∈ pTs := pTs_in wd_1060
theorem selX5_size : Cond.selects yX5_size.cls yX5_size yX5_size ∈ pTs := pTs_in wd_658
theorem selX6_distance : Cond.selects yX6_distance.cls yX6_distance yX6_distance ∈ pTs := pTs_in wd_771
theorem selX6_far : Cond.selects yX6_far.cls yX6_far yX6_far ∈ pTs := pTs_in wd_863
theorem selX6_isOffered : Cond.selects yX6_isOffered.cls yX6_isOffered yX6_isOffered ∈ pTs := pTs_in wd_1113
theorem selX6_leastScoreToLead : Cond.selects yX6_leastScoreToLead.cls yX6_leastScoreToLead yX6_leastScoreToLead ∈ pTs := pTs_in wd_1124
theorem selX6_nearWords : Cond.selects yX6_nearWords.cls yX6_nearWords yX6_nearWords ∈ pTs := pTs_in wd_839
theorem selX6_offered : Cond.selects yX6_offered.cls yX6_offered yX6_offered ∈ pTs := pTs_in wd_875
theorem selX6_place : Cond.selects yX6_place.cls yX6_place yX6_place ∈ pTs := pTs_in wd_871
theorem selX6_placeWords : Cond.selects yX6_placeWords.cls yX6_placeWords yX6_placeWords ∈ pTs := sel_priv 20 (by decide +kernel)
theorem selX6_renew : Cond.selects yX6_renew.cls yX6_renew yX6_renew ∈ pTs := pTs_in wd_764
theorem selX6_score : Cond.selects yX6_score.cls yX6_score yX6_score ∈ pTs := pTs_in wd_867
theorem selX6_typeOneMore : Cond.selects yX6_typeOneMore.cls yX6_typeOneMore yX6_typeOneMore ∈ pTs := sel_priv 18 (by decide +kernel)
theorem selX6_wordsAhead : Cond.selects yX6_wordsAhead.cls yX6_wordsAhead yX6_wordsAhead ∈ pTs := sel_priv 21 (by decide +kernel)
theorem selX7_errorPosition : Cond.selects yX7_errorPosition.cls yX7_errorPosition yX7_errorPosition ∈ pTs := pTs_in wd_705
theorem selX7_keyRow : Cond.selects yX7_keyRow.cls yX7_keyRow yX7_keyRow ∈ pTs := sel_priv 16 (by decide +kernel)
theorem selX7_lookAt : Cond.selects yX7_lookAt.cls yX7_lookAt yX7_lookAt ∈ pTs := sel_priv 13 (by decide +kernel)
theorem selX7_lookAtName : Cond.selects yX7_lookAtName.cls yX7_lookAtName yX7_lookAtName ∈ pTs := sel_priv 15 (by decide +kernel)
theorem selX7_read : Cond.selects yX7_read.cls yX7_read yX7_read ∈ pTs := pTs_in wd_415
theorem selX7_weigh : Cond.selects yX7_weigh.cls yX7_weigh yX7_weigh ∈ pTs := sel_priv 14 (by decide +kernel)
theorem selX8_boost : Cond.selects yX8_boost.cls yX8_boost yX8_boost ∈ pTs := pTs_in wd_785
theorem selX8_run : Cond.selects yX8_run.cls yX8_run yX8_run ∈ pTs := sel_priv 19 (by decide +kernel)
theorem selX9_add : Cond.selects yX9_add.cls yX9_add yX9_add ∈ pTs := pTs_in wd_138
theorem selX9_addTo : Cond.selects yX9_addTo.cls yX9_addTo yX9_addTo ∈ pTs := pTs_in wd_852
theorem selX9_at : Cond.selects yX9_at.cls yX9_at yX9_at ∈ pTs := pTs_in wd_154
theorem selX9_beginsWith : Cond.selects yX9_beginsWith.cls yX9_beginsWith yX9_beginsWith ∈ pTs := pTs_in wd_742
theorem selX9_clear : Cond.selects yX9_clear.cls yX9_clear yX9_clear ∈ pTs := pTs_in wd_158
theorem selX9_copy : Cond.selects yX9_copy.cls yX9_copy yX9_copy ∈ pTs := pTs_in wd_150
theorem selX9_fill : Cond.selects yX9_fill.cls yX9_fill yX9_fill ∈ pTs := pTs_in wd_214
theorem selX9_isFull : Cond.selects yX9_isFull.cls yX9_isFull yX9_isFull ∈ pTs := pTs_in wd_649
theorem selX9_isSame : Cond.selects yX9_isSame.cls yX9_isSame yX9_isSame ∈ pTs := pTs_in wd_465
theorem selX9_put : Cond.selects yX9_put.cls yX9_put yX9_put ∈ pTs := pTs_in wd_662
theorem selX9_removeLast : Cond.selects yX9_removeLast.cls yX9_removeLast yX9_removeLast ∈ pTs := pTs_in wd_806
theorem selX9_sameAhead : Cond.selects yX9_sameAhead.cls yX9_sameAhead yX9_sameAhead ∈ pTs := pTs_in wd_469
theorem selX9_shorten : Cond.selects yX9_shorten.cls yX9_shorten yX9_shorten ∈ pTs := pTs_in wd_983
theorem selX9_size : Cond.selects yX9_size.cls yX9_size yX9_size ∈ pTs := pTs_in wd_146
def thNames : List String := ["java/lang/RuntimeException", "java/lang/Exception"]
theorem thNames_ok : ∀ n ∈ thNames, Bundle.fit n = true := by decide +kernel
theorem thw_X11_71 : ∀ c ∈ vx_atS "WordPad" 71 "java/lang/IllegalStateException" thNames, pWd c := th_of (by decide +kernel)
theorem thw_X11_81 : ∀ c ∈ vx_atS "WordPad" 81 "java/lang/IllegalArgumentException" thNames, pWd c := th_of (by decide +kernel)
theorem thw_X11_101 : ∀ c ∈ vx_atS "WordPad" 101 "java/lang/IndexOutOfBoundsException" thNames, pWd c := th_of (by decide +kernel)
theorem hs_L_feed : ∀ E k t, ([("java/lang/IllegalStateException", 7, 21)] : List (String × Nat × Nat)).lookup E = some (k, t) → pHnd mL_feed 11 E k t := by
  intro E k t h
  by_cases e0 : E = "java/lang/IllegalStateException"
  · subst e0
    obtain ⟨rfl, rfl⟩ : 7 = k ∧ 21 = t := by simpa [List.lookup] using h
    exact ⟨[], ⟨0, 16, 19, 13⟩, [], rfl, by decide, by decide, by decide, Or.inl ⟨by decide +kernel, rfl⟩, wd_880, wd_887, fun z hz => absurd hz List.not_mem_nil⟩
  · have b0 : (E == "java/lang/IllegalStateException") = false := beq_eq_false_iff_ne.mpr e0
    simp [List.lookup, b0] at h
theorem hs_L_trim : ∀ E k t, ([("java/lang/IllegalArgumentException", 3, 13)] : List (String × Nat × Nat)).lookup E = some (k, t) → pHnd mL_trim 4 E k t := by
  intro E k t h
  by_cases e0 : E = "java/lang/IllegalArgumentException"
  · subst e0
    obtain ⟨rfl, rfl⟩ : 3 = k ∧ 13 = t := by simpa [List.lookup] using h
    exact ⟨[], ⟨0, 9, 12, 19⟩, [], rfl, by decide, by decide, by decide, Or.inr ⟨⟨3, rfl, by decide +kernel⟩, rfl⟩, wd_960, wd_967, fun z hz => absurd hz List.not_mem_nil⟩
  · have b0 : (E == "java/lang/IllegalArgumentException") = false := beq_eq_false_iff_ne.mpr e0
    simp [List.lookup, b0] at h
theorem hs_L_count : ∀ E k t, ([("java/lang/IndexOutOfBoundsException", 3, 13)] : List (String × Nat × Nat)).lookup E = some (k, t) → pHnd mL_count 4 E k t := by
  intro E k t h
  by_cases e0 : E = "java/lang/IndexOutOfBoundsException"
  · subst e0
    obtain ⟨rfl, rfl⟩ : 3 = k ∧ 13 = t := by simpa [List.lookup] using h
    exact ⟨[], ⟨0, 9, 12, 24⟩, [], rfl, by decide, by decide, by decide, Or.inr ⟨⟨3, rfl, by decide +kernel⟩, rfl⟩, wd_988, wd_995, fun z hz => absurd hz List.not_mem_nil⟩
  · have b0 : (E == "java/lang/IndexOutOfBoundsException") = false := beq_eq_false_iff_ne.mpr e0
    simp [List.lookup, b0] at h
theorem hs_L_type : ∀ E k t, ([("java/lang/IllegalArgumentException", 3, 13), ("java/lang/IllegalStateException", 3, 16)] : List (String × Nat × Nat)).lookup E = some (k, t) → pHnd mL_type 4 E k t := by
  intro E k t h
  by_cases e0 : E = "java/lang/IllegalArgumentException"
  · subst e0
    obtain ⟨rfl, rfl⟩ : 3 = k ∧ 13 = t := by simpa [List.lookup] using h
    exact ⟨[], ⟨0, 9, 12, 19⟩, [⟨0, 9, 15, 13⟩], rfl, by decide, by decide, by decide, Or.inr ⟨⟨3, rfl, by decide +kernel⟩, rfl⟩, wd_960, wd_967, fun z hz => absurd hz List.not_mem_nil⟩
  by_cases e1 : E = "java/lang/IllegalStateException"
  · subst e1
    obtain ⟨rfl, rfl⟩ : 3 = k ∧ 16 = t := by simpa [List.lookup] using h
    exact ⟨[⟨0, 9, 12, 19⟩], ⟨0, 9, 15, 13⟩, [], rfl, by decide, by decide, by decide, Or.inr ⟨⟨3, rfl, by decide +kernel⟩, rfl⟩, wd_880, wd_887, fun z hz => by rw [List.mem_singleton.mp hz]; exact Or.inr ⟨by decide, "java/lang/IllegalArgumentException", wd_960, by decide⟩⟩
  · have b0 : (E == "java/lang/IllegalArgumentException") = false := beq_eq_false_iff_ne.mpr e0
    have b1 : (E == "java/lang/IllegalStateException") = false := beq_eq_false_iff_ne.mpr e1
    simp [List.lookup, b0, b1] at h
theorem hs_L_back : ∀ E k t, ([("java/lang/IllegalStateException", 2, 12)] : List (String × Nat × Nat)).lookup E = some (k, t) → pHnd mL_back 3 E k t := by
  intro E k t h
  by_cases e0 : E = "java/lang/IllegalStateException"
  · subst e0
    obtain ⟨rfl, rfl⟩ : 2 = k ∧ 12 = t := by simpa [List.lookup] using h
    exact ⟨[], ⟨0, 8, 11, 13⟩, [], rfl, by decide, by decide, by decide, Or.inr ⟨⟨2, rfl, by decide +kernel⟩, rfl⟩, wd_880, wd_887, fun z hz => absurd hz List.not_mem_nil⟩
  · have b0 : (E == "java/lang/IllegalStateException") = false := beq_eq_false_iff_ne.mpr e0
    simp [List.lookup, b0] at h
theorem hs_L_take : ∀ E k t, ([("java/lang/IndexOutOfBoundsException", 3, 13), ("java/lang/IllegalStateException", 3, 16)] : List (String × Nat × Nat)).lookup E = some (k, t) → pHnd mL_take 4 E k t := by
  intro E k t h
  by_cases e0 : E = "java/lang/IndexOutOfBoundsException"
  · subst e0
    obtain ⟨rfl, rfl⟩ : 3 = k ∧ 13 = t := by simpa [List.lookup] using h
    exact ⟨[], ⟨0, 9, 12, 24⟩, [⟨0, 9, 15, 13⟩], rfl, by decide, by decide, by decide, Or.inr ⟨⟨3, rfl, by decide +kernel⟩, rfl⟩, wd_988, wd_995, fun z hz => absurd hz List.not_mem_nil⟩
  by_cases e1 : E = "java/lang/IllegalStateException"
  · subst e1
    obtain ⟨rfl, rfl⟩ : 3 = k ∧ 16 = t := by simpa [List.lookup] using h
    exact ⟨[⟨0, 9, 12, 24⟩], ⟨0, 9, 15, 13⟩, [], rfl, by decide, by decide, by decide, Or.inr ⟨⟨3, rfl, by decide +kernel⟩, rfl⟩, wd_880, wd_887, fun z hz => by rw [List.mem_singleton.mp hz]; exact Or.inr ⟨by decide, "java/lang/IndexOutOfBoundsException", wd_988, by decide⟩⟩
  · have b0 : (E == "java/lang/IndexOutOfBoundsException") = false := beq_eq_false_iff_ne.mpr e0
    have b1 : (E == "java/lang/IllegalStateException") = false := beq_eq_false_iff_ne.mpr e1
    simp [List.lookup, b0, b1] at h
theorem hs_L_say : ∀ E k t, ([("java/lang/IllegalStateException", 2, 12)] : List (String × Nat × Nat)).lookup E = some (k, t) → pHnd mL_say 3 E k t := by
  intro E k t h
  by_cases e0 : E = "java/lang/IllegalStateException"
  · subst e0
    obtain ⟨rfl, rfl⟩ : 2 = k ∧ 12 = t := by simpa [List.lookup] using h
    exact ⟨[], ⟨0, 8, 11, 13⟩, [], rfl, by decide, by decide, by decide, Or.inr ⟨⟨2, rfl, by decide +kernel⟩, rfl⟩, wd_880, wd_887, fun z hz => absurd hz List.not_mem_nil⟩
  · have b0 : (E == "java/lang/IllegalStateException") = false := beq_eq_false_iff_ne.mpr e0
    simp [List.lookup, b0] at h
theorem hs_L_setLimit : ∀ E k t, ([("java/lang/IllegalArgumentException", 3, 13)] : List (String × Nat × Nat)).lookup E = some (k, t) → pHnd mL_setLimit 4 E k t := by
  intro E k t h
  by_cases e0 : E = "java/lang/IllegalArgumentException"
  · subst e0
    obtain ⟨rfl, rfl⟩ : 3 = k ∧ 13 = t := by simpa [List.lookup] using h
    exact ⟨[], ⟨0, 9, 12, 19⟩, [], rfl, by decide, by decide, by decide, Or.inr ⟨⟨3, rfl, by decide +kernel⟩, rfl⟩, wd_960, wd_967, fun z hz => absurd hz List.not_mem_nil⟩
  · have b0 : (E == "java/lang/IllegalArgumentException") = false := beq_eq_false_iff_ne.mpr e0
    simp [List.lookup, b0] at h
theorem hs_L_offer : ∀ E k t, ([("java/lang/IndexOutOfBoundsException", 3, 13)] : List (String × Nat × Nat)).lookup E = some (k, t) → pHnd mL_offer 4 E k t := by
  intro E k t h
  by_cases e0 : E = "java/lang/IndexOutOfBoundsException"
  · subst e0
    obtain ⟨rfl, rfl⟩ : 3 = k ∧ 13 = t := by simpa [List.lookup] using h
    exact ⟨[], ⟨0, 9, 12, 24⟩, [], rfl, by decide, by decide, by decide, Or.inr ⟨⟨3, rfl, by decide +kernel⟩, rfl⟩, wd_988, wd_995, fun z hz => absurd hz List.not_mem_nil⟩
  · have b0 : (E == "java/lang/IndexOutOfBoundsException") = false := beq_eq_false_iff_ne.mpr e0
    simp [List.lookup, b0] at h
theorem hs_L_word : ∀ E k t, ([("java/lang/IndexOutOfBoundsException", 4, 15)] : List (String × Nat × Nat)).lookup E = some (k, t) → pHnd mL_word 5 E k t := by
  intro E k t h
  by_cases e0 : E = "java/lang/IndexOutOfBoundsException"
  · subst e0
    obtain ⟨rfl, rfl⟩ : 4 = k ∧ 15 = t := by simpa [List.lookup] using h
    exact ⟨[], ⟨0, 10, 13, 24⟩, [], rfl, by decide, by decide, by decide, Or.inl ⟨by decide +kernel, rfl⟩, wd_988, wd_995, fun z hz => absurd hz List.not_mem_nil⟩
  · have b0 : (E == "java/lang/IndexOutOfBoundsException") = false := beq_eq_false_iff_ne.mpr e0
    simp [List.lookup, b0] at h
theorem hs_L_letter : ∀ E k t, ([("java/lang/IndexOutOfBoundsException", 4, 15)] : List (String × Nat × Nat)).lookup E = some (k, t) → pHnd mL_letter 5 E k t := by
  intro E k t h
  by_cases e0 : E = "java/lang/IndexOutOfBoundsException"
  · subst e0
    obtain ⟨rfl, rfl⟩ : 4 = k ∧ 15 = t := by simpa [List.lookup] using h
    exact ⟨[], ⟨0, 10, 13, 24⟩, [], rfl, by decide, by decide, by decide, Or.inl ⟨by decide +kernel, rfl⟩, wd_988, wd_995, fun z hz => absurd hz List.not_mem_nil⟩
  · have b0 : (E == "java/lang/IndexOutOfBoundsException") = false := beq_eq_false_iff_ne.mpr e0
    simp [List.lookup, b0] at h
theorem hs_L_strokes : ∀ E k t, ([("java/lang/IndexOutOfBoundsException", 3, 13)] : List (String × Nat × Nat)).lookup E = some (k, t) → pHnd mL_strokes 4 E k t := by
  intro E k t h
  by_cases e0 : E = "java/lang/IndexOutOfBoundsException"
  · subst e0
    obtain ⟨rfl, rfl⟩ : 3 = k ∧ 13 = t := by simpa [List.lookup] using h
    exact ⟨[], ⟨0, 9, 12, 24⟩, [], rfl, by decide, by decide, by decide, Or.inr ⟨⟨3, rfl, by decide +kernel⟩, rfl⟩, wd_988, wd_995, fun z hz => absurd hz List.not_mem_nil⟩
  · have b0 : (E == "java/lang/IndexOutOfBoundsException") = false := beq_eq_false_iff_ne.mpr e0
    simp [List.lookup, b0] at h
theorem hs_L_needs : ∀ E k t, ([("java/lang/IndexOutOfBoundsException", 3, 13)] : List (String × Nat × Nat)).lookup E = some (k, t) → pHnd mL_needs 4 E k t := by
  intro E k t h
  by_cases e0 : E = "java/lang/IndexOutOfBoundsException"
  · subst e0
    obtain ⟨rfl, rfl⟩ : 3 = k ∧ 13 = t := by simpa [List.lookup] using h
    exact ⟨[], ⟨0, 9, 12, 24⟩, [], rfl, by decide, by decide, by decide, Or.inr ⟨⟨3, rfl, by decide +kernel⟩, rfl⟩, wd_988, wd_995, fun z hz => absurd hz List.not_mem_nil⟩
  · have b0 : (E == "java/lang/IndexOutOfBoundsException") = false := beq_eq_false_iff_ne.mpr e0
    simp [List.lookup, b0] at h
theorem hs_L_closest : ∀ E k t, ([("java/lang/IndexOutOfBoundsException", 3, 13)] : List (String × Nat × Nat)).lookup E = some (k, t) → pHnd mL_closest 4 E k t := by
  intro E k t h
  by_cases e0 : E = "java/lang/IndexOutOfBoundsException"
  · subst e0
    obtain ⟨rfl, rfl⟩ : 3 = k ∧ 13 = t := by simpa [List.lookup] using h
    exact ⟨[], ⟨0, 9, 12, 24⟩, [], rfl, by decide, by decide, by decide, Or.inr ⟨⟨3, rfl, by decide +kernel⟩, rfl⟩, wd_988, wd_995, fun z hz => absurd hz List.not_mem_nil⟩
  · have b0 : (E == "java/lang/IndexOutOfBoundsException") = false := beq_eq_false_iff_ne.mpr e0
    simp [List.lookup, b0] at h
