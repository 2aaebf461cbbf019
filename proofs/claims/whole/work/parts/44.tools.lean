/-! tools: what a write leaves alone; the facts of the shape, as rewriting rules -/
theorem zR_wI {σ : ZM} {a b : Nat} {i j x : Int} : zR (wI σ a i x) b j = zR σ b j := rfl
theorem zR_wJ {σ : ZM} {a b : Nat} {i j : Int} {x : Int64} : zR (wJ σ a i x) b j = zR σ b j := rfl
theorem zJ_wI {σ : ZM} {a b : Nat} {i j x : Int} : zJ (wI σ a i x) b j = zJ σ b j := rfl
theorem zI_wJ {σ : ZM} {a b : Nat} {i j : Int} {x : Int64} : zI (wJ σ a i x) b j = zI σ b j := rfl
theorem zrI_zi {x : Int} {F : Int → Prop} : zrI (zi x) F = F x := rfl
theorem zrL_zl {x : Int64} {F : Int64 → Prop} : zrL (zl x) F = F x := rfl
theorem zrR_zr {x : Nat} {F : Nat → Prop} : zrR (zr x) F = F x := rfl
theorem zI_wR {σ : ZM} {a b : Nat} {i j : Int} {x : Nat} : zI (wR σ a i x) b j = zI σ b j := rfl
theorem zJ_wR {σ : ZM} {a b : Nat} {i j : Int} {x : Nat} : zJ (wR σ a i x) b j = zJ σ b j := rfl
theorem zobj_wI {σ : ZM} {a b c : Nat} {i : Int} {x : Int} : zobj (wI σ a i x) b c = zobj σ b c := rfl
theorem zarr_wI {σ : ZM} {a b c : Nat} {i j : Int} {x : Int} : zarr (wI σ a i x) b c j = zarr σ b c j := rfl
theorem zS_wI {σ : ZM} {a b : Nat} {i : Int} {x : Int} : zS (wI σ a i x) b = zS σ b := rfl
theorem zobj_wJ {σ : ZM} {a b c : Nat} {i : Int} {x : Int64} : zobj (wJ σ a i x) b c = zobj σ b c := rfl
theorem zarr_wJ {σ : ZM} {a b c : Nat} {i j : Int} {x : Int64} : zarr (wJ σ a i x) b c j = zarr σ b c j := rfl
theorem zS_wJ {σ : ZM} {a b : Nat} {i : Int} {x : Int64} : zS (wJ σ a i x) b = zS σ b := rfl
theorem zobj_wR {σ : ZM} {a b c : Nat} {i : Int} {x : Nat} : zobj (wR σ a i x) b c = zobj σ b c := rfl
theorem zarr_wR {σ : ZM} {a b c : Nat} {i j : Int} {x : Nat} : zarr (wR σ a i x) b c j = zarr σ b c j := rfl
theorem zS_wR {σ : ZM} {a b : Nat} {i : Int} {x : Nat} : zS (wR σ a i x) b = zS σ b := rfl
theorem Shp_wI {σ : ZM} {a : Nat} {i : Int} {x : Int} : Shp (wI σ a i x) = Shp σ := rfl
theorem Shp_wJ {σ : ZM} {a : Nat} {i : Int} {x : Int64} : Shp (wJ σ a i x) = Shp σ := rfl
theorem o_2 {σ : ZM} (h : Shp σ) : zobj σ 2 10 = True := eq_true (h.obj (by decide) (by decide) rfl)
theorem a_3 {σ : ZM} (h : Shp σ) {i : Int} : zarr σ 3 103 i = (0 ≤ i ∧ i < 8) := propext ⟨fun w => ⟨w.2.2.2.1, by have := w.2.2.2.2; rw [h.2.1 3 (by decide) (by decide)] at this; exact this⟩, fun w => h.arr (by decide) (by decide) rfl w.1 w.2⟩
theorem a_4 {σ : ZM} (h : Shp σ) {i : Int} : zarr σ 4 104 i = (0 ≤ i ∧ i < 8) := propext ⟨fun w => ⟨w.2.2.2.1, by have := w.2.2.2.2; rw [h.2.1 4 (by decide) (by decide)] at this; exact this⟩, fun w => h.arr (by decide) (by decide) rfl w.1 w.2⟩
theorem a_5 {σ : ZM} (h : Shp σ) {i : Int} : zarr σ 5 105 i = (0 ≤ i ∧ i < 4) := propext ⟨fun w => ⟨w.2.2.2.1, by have := w.2.2.2.2; rw [h.2.1 5 (by decide) (by decide)] at this; exact this⟩, fun w => h.arr (by decide) (by decide) rfl w.1 w.2⟩
theorem o_10 {σ : ZM} (h : Shp σ) : zobj σ 10 6 = True := eq_true (h.obj (by decide) (by decide) rfl)
theorem a_11 {σ : ZM} (h : Shp σ) {i : Int} : zarr σ 11 103 i = (0 ≤ i ∧ i < 60) := propext ⟨fun w => ⟨w.2.2.2.1, by have := w.2.2.2.2; rw [h.2.1 11 (by decide) (by decide)] at this; exact this⟩, fun w => h.arr (by decide) (by decide) rfl w.1 w.2⟩
theorem a_12 {σ : ZM} (h : Shp σ) {i : Int} : zarr σ 12 100 i = (0 ≤ i ∧ i < 60) := propext ⟨fun w => ⟨w.2.2.2.1, by have := w.2.2.2.2; rw [h.2.1 12 (by decide) (by decide)] at this; exact this⟩, fun w => h.arr (by decide) (by decide) rfl w.1 w.2⟩
theorem o_137 {σ : ZM} (h : Shp σ) : zobj σ 137 2 = True := eq_true (h.obj (by decide) (by decide) rfl)
theorem o_138 {σ : ZM} (h : Shp σ) : zobj σ 138 9 = True := eq_true (h.obj (by decide) (by decide) rfl)
theorem a_139 {σ : ZM} (h : Shp σ) {i : Int} : zarr σ 139 101 i = (0 ≤ i ∧ i < 80601) := propext ⟨fun w => ⟨w.2.2.2.1, by have := w.2.2.2.2; rw [h.2.1 139 (by decide) (by decide)] at this; exact this⟩, fun w => h.arr (by decide) (by decide) rfl w.1 w.2⟩
theorem o_140 {σ : ZM} (h : Shp σ) : zobj σ 140 1 = True := eq_true (h.obj (by decide) (by decide) rfl)
theorem a_141 {σ : ZM} (h : Shp σ) {i : Int} : zarr σ 141 100 i = (0 ≤ i ∧ i < 77531) := propext ⟨fun w => ⟨w.2.2.2.1, by have := w.2.2.2.2; rw [h.2.1 141 (by decide) (by decide)] at this; exact this⟩, fun w => h.arr (by decide) (by decide) rfl w.1 w.2⟩
theorem o_142 {σ : ZM} (h : Shp σ) : zobj σ 142 7 = True := eq_true (h.obj (by decide) (by decide) rfl)
theorem a_143 {σ : ZM} (h : Shp σ) {i : Int} : zarr σ 143 101 i = (0 ≤ i ∧ i < 21) := propext ⟨fun w => ⟨w.2.2.2.1, by have := w.2.2.2.2; rw [h.2.1 143 (by decide) (by decide)] at this; exact this⟩, fun w => h.arr (by decide) (by decide) rfl w.1 w.2⟩
theorem o_146 {σ : ZM} (h : Shp σ) : zobj σ 146 5 = True := eq_true (h.obj (by decide) (by decide) rfl)
theorem a_147 {σ : ZM} (h : Shp σ) {i : Int} : zarr σ 147 100 i = (0 ≤ i ∧ i < 401) := propext ⟨fun w => ⟨w.2.2.2.1, by have := w.2.2.2.2; rw [h.2.1 147 (by decide) (by decide)] at this; exact this⟩, fun w => h.arr (by decide) (by decide) rfl w.1 w.2⟩
theorem a_148 {σ : ZM} (h : Shp σ) {i : Int} : zarr σ 148 100 i = (0 ≤ i ∧ i < 400) := propext ⟨fun w => ⟨w.2.2.2.1, by have := w.2.2.2.2; rw [h.2.1 148 (by decide) (by decide)] at this; exact this⟩, fun w => h.arr (by decide) (by decide) rfl w.1 w.2⟩
theorem a_149 {σ : ZM} (h : Shp σ) {i : Int} : zarr σ 149 100 i = (0 ≤ i ∧ i < 400) := propext ⟨fun w => ⟨w.2.2.2.1, by have := w.2.2.2.2; rw [h.2.1 149 (by decide) (by decide)] at this; exact this⟩, fun w => h.arr (by decide) (by decide) rfl w.1 w.2⟩
theorem o_152 {σ : ZM} (h : Shp σ) : zobj σ 152 0 = True := eq_true (h.obj (by decide) (by decide) rfl)
theorem a_153 {σ : ZM} (h : Shp σ) {i : Int} : zarr σ 153 102 i = (0 ≤ i ∧ i < 812) := propext ⟨fun w => ⟨w.2.2.2.1, by have := w.2.2.2.2; rw [h.2.1 153 (by decide) (by decide)] at this; exact this⟩, fun w => h.arr (by decide) (by decide) rfl w.1 w.2⟩
theorem o_154 {σ : ZM} (h : Shp σ) : zobj σ 154 3 = True := eq_true (h.obj (by decide) (by decide) rfl)
theorem a_157 {σ : ZM} (h : Shp σ) {i : Int} : zarr σ 157 100 i = (0 ≤ i ∧ i < 31) := propext ⟨fun w => ⟨w.2.2.2.1, by have := w.2.2.2.2; rw [h.2.1 157 (by decide) (by decide)] at this; exact this⟩, fun w => h.arr (by decide) (by decide) rfl w.1 w.2⟩
theorem o_158 {σ : ZM} (h : Shp σ) : zobj σ 158 7 = True := eq_true (h.obj (by decide) (by decide) rfl)
theorem a_159 {σ : ZM} (h : Shp σ) {i : Int} : zarr σ 159 101 i = (0 ≤ i ∧ i < 21) := propext ⟨fun w => ⟨w.2.2.2.1, by have := w.2.2.2.2; rw [h.2.1 159 (by decide) (by decide)] at this; exact this⟩, fun w => h.arr (by decide) (by decide) rfl w.1 w.2⟩
theorem o_192 {σ : ZM} (h : Shp σ) : zobj σ 192 11 = True := eq_true (h.obj (by decide) (by decide) rfl)
theorem a_193 {σ : ZM} (h : Shp σ) {i : Int} : zarr σ 193 100 i = (0 ≤ i ∧ i < 40) := propext ⟨fun w => ⟨w.2.2.2.1, by have := w.2.2.2.2; rw [h.2.1 193 (by decide) (by decide)] at this; exact this⟩, fun w => h.arr (by decide) (by decide) rfl w.1 w.2⟩
theorem a_194 {σ : ZM} (h : Shp σ) {i : Int} : zarr σ 194 100 i = (0 ≤ i ∧ i < 4400) := propext ⟨fun w => ⟨w.2.2.2.1, by have := w.2.2.2.2; rw [h.2.1 194 (by decide) (by decide)] at this; exact this⟩, fun w => h.arr (by decide) (by decide) rfl w.1 w.2⟩
theorem a_195 {σ : ZM} (h : Shp σ) {i : Int} : zarr σ 195 100 i = (0 ≤ i ∧ i < 11) := propext ⟨fun w => ⟨w.2.2.2.1, by have := w.2.2.2.2; rw [h.2.1 195 (by decide) (by decide)] at this; exact this⟩, fun w => h.arr (by decide) (by decide) rfl w.1 w.2⟩
theorem a_196 {σ : ZM} (h : Shp σ) {i : Int} : zarr σ 196 100 i = (0 ≤ i ∧ i < 24000) := propext ⟨fun w => ⟨w.2.2.2.1, by have := w.2.2.2.2; rw [h.2.1 196 (by decide) (by decide)] at this; exact this⟩, fun w => h.arr (by decide) (by decide) rfl w.1 w.2⟩
theorem a_197 {σ : ZM} (h : Shp σ) {i : Int} : zarr σ 197 100 i = (0 ≤ i ∧ i < 60) := propext ⟨fun w => ⟨w.2.2.2.1, by have := w.2.2.2.2; rw [h.2.1 197 (by decide) (by decide)] at this; exact this⟩, fun w => h.arr (by decide) (by decide) rfl w.1 w.2⟩
theorem a_198 {σ : ZM} (h : Shp σ) {i : Int} : zarr σ 198 100 i = (0 ≤ i ∧ i < 60) := propext ⟨fun w => ⟨w.2.2.2.1, by have := w.2.2.2.2; rw [h.2.1 198 (by decide) (by decide)] at this; exact this⟩, fun w => h.arr (by decide) (by decide) rfl w.1 w.2⟩
theorem a_199 {σ : ZM} (h : Shp σ) {i : Int} : zarr σ 199 101 i = (0 ≤ i ∧ i < 160801) := propext ⟨fun w => ⟨w.2.2.2.1, by have := w.2.2.2.2; rw [h.2.1 199 (by decide) (by decide)] at this; exact this⟩, fun w => h.arr (by decide) (by decide) rfl w.1 w.2⟩
theorem a_200 {σ : ZM} (h : Shp σ) {i : Int} : zarr σ 200 101 i = (0 ≤ i ∧ i < 160801) := propext ⟨fun w => ⟨w.2.2.2.1, by have := w.2.2.2.2; rw [h.2.1 200 (by decide) (by decide)] at this; exact this⟩, fun w => h.arr (by decide) (by decide) rfl w.1 w.2⟩
theorem a_201 {σ : ZM} (h : Shp σ) {i : Int} : zarr σ 201 101 i = (0 ≤ i ∧ i < 226981) := propext ⟨fun w => ⟨w.2.2.2.1, by have := w.2.2.2.2; rw [h.2.1 201 (by decide) (by decide)] at this; exact this⟩, fun w => h.arr (by decide) (by decide) rfl w.1 w.2⟩
theorem a_202 {σ : ZM} (h : Shp σ) {i : Int} : zarr σ 202 101 i = (0 ≤ i ∧ i < 401) := propext ⟨fun w => ⟨w.2.2.2.1, by have := w.2.2.2.2; rw [h.2.1 202 (by decide) (by decide)] at this; exact this⟩, fun w => h.arr (by decide) (by decide) rfl w.1 w.2⟩
theorem a_203 {σ : ZM} (h : Shp σ) {i : Int} : zarr σ 203 100 i = (0 ≤ i ∧ i < 401) := propext ⟨fun w => ⟨w.2.2.2.1, by have := w.2.2.2.2; rw [h.2.1 203 (by decide) (by decide)] at this; exact this⟩, fun w => h.arr (by decide) (by decide) rfl w.1 w.2⟩
theorem a_204 {σ : ZM} (h : Shp σ) {i : Int} : zarr σ 204 100 i = (0 ≤ i ∧ i < 401) := propext ⟨fun w => ⟨w.2.2.2.1, by have := w.2.2.2.2; rw [h.2.1 204 (by decide) (by decide)] at this; exact this⟩, fun w => h.arr (by decide) (by decide) rfl w.1 w.2⟩
theorem a_205 {σ : ZM} (h : Shp σ) {i : Int} : zarr σ 205 100 i = (0 ≤ i ∧ i < 402) := propext ⟨fun w => ⟨w.2.2.2.1, by have := w.2.2.2.2; rw [h.2.1 205 (by decide) (by decide)] at this; exact this⟩, fun w => h.arr (by decide) (by decide) rfl w.1 w.2⟩
theorem a_206 {σ : ZM} (h : Shp σ) {i : Int} : zarr σ 206 102 i = (0 ≤ i ∧ i < 1300) := propext ⟨fun w => ⟨w.2.2.2.1, by have := w.2.2.2.2; rw [h.2.1 206 (by decide) (by decide)] at this; exact this⟩, fun w => h.arr (by decide) (by decide) rfl w.1 w.2⟩
theorem a_207 {σ : ZM} (h : Shp σ) {i : Int} : zarr σ 207 100 i = (0 ≤ i ∧ i < 31) := propext ⟨fun w => ⟨w.2.2.2.1, by have := w.2.2.2.2; rw [h.2.1 207 (by decide) (by decide)] at this; exact this⟩, fun w => h.arr (by decide) (by decide) rfl w.1 w.2⟩
theorem a_208 {σ : ZM} (h : Shp σ) {i : Int} : zarr σ 208 101 i = (0 ≤ i ∧ i < 3721) := propext ⟨fun w => ⟨w.2.2.2.1, by have := w.2.2.2.2; rw [h.2.1 208 (by decide) (by decide)] at this; exact this⟩, fun w => h.arr (by decide) (by decide) rfl w.1 w.2⟩
theorem a_209 {σ : ZM} (h : Shp σ) {i : Int} : zarr σ 209 101 i = (0 ≤ i ∧ i < 1604) := propext ⟨fun w => ⟨w.2.2.2.1, by have := w.2.2.2.2; rw [h.2.1 209 (by decide) (by decide)] at this; exact this⟩, fun w => h.arr (by decide) (by decide) rfl w.1 w.2⟩
theorem a_210 {σ : ZM} (h : Shp σ) {i : Int} : zarr σ 210 101 i = (0 ≤ i ∧ i < 401) := propext ⟨fun w => ⟨w.2.2.2.1, by have := w.2.2.2.2; rw [h.2.1 210 (by decide) (by decide)] at this; exact this⟩, fun w => h.arr (by decide) (by decide) rfl w.1 w.2⟩
theorem r_2_0 {σ : ZM} (h : Shp σ) : zR σ 2 0 = 3 := h.2.2 2 0 (by unfold rfx; omega)
theorem r_2_1 {σ : ZM} (h : Shp σ) : zR σ 2 1 = 4 := h.2.2 2 1 (by unfold rfx; omega)
theorem r_2_2 {σ : ZM} (h : Shp σ) : zR σ 2 2 = 5 := h.2.2 2 2 (by unfold rfx; omega)
theorem r_2_3 {σ : ZM} (h : Shp σ) : zR σ 2 3 = 10 := h.2.2 2 3 (by unfold rfx; omega)
theorem r_2_4 {σ : ZM} (h : Shp σ) : zR σ 2 4 = 133 := h.2.2 2 4 (by unfold rfx; omega)
theorem r_2_5 {σ : ZM} (h : Shp σ) : zR σ 2 5 = 135 := h.2.2 2 5 (by unfold rfx; omega)
theorem r_2_6 {σ : ZM} (h : Shp σ) : zR σ 2 6 = 137 := h.2.2 2 6 (by unfold rfx; omega)
theorem r_2_7 {σ : ZM} (h : Shp σ) : zR σ 2 7 = 146 := h.2.2 2 7 (by unfold rfx; omega)
theorem r_2_8 {σ : ZM} (h : Shp σ) : zR σ 2 8 = 152 := h.2.2 2 8 (by unfold rfx; omega)
theorem r_2_9 {σ : ZM} (h : Shp σ) : zR σ 2 9 = 154 := h.2.2 2 9 (by unfold rfx; omega)
theorem r_2_10 {σ : ZM} (h : Shp σ) : zR σ 2 10 = 158 := h.2.2 2 10 (by unfold rfx; omega)
theorem r_10_0 {σ : ZM} (h : Shp σ) : zR σ 10 0 = 11 := h.2.2 10 0 (by unfold rfx; omega)
theorem r_10_1 {σ : ZM} (h : Shp σ) : zR σ 10 1 = 12 := h.2.2 10 1 (by unfold rfx; omega)
theorem r_137_0 {σ : ZM} (h : Shp σ) : zR σ 137 0 = 138 := h.2.2 137 0 (by unfold rfx; omega)
theorem r_137_1 {σ : ZM} (h : Shp σ) : zR σ 137 1 = 140 := h.2.2 137 1 (by unfold rfx; omega)
theorem r_137_2 {σ : ZM} (h : Shp σ) : zR σ 137 2 = 142 := h.2.2 137 2 (by unfold rfx; omega)
theorem r_138_0 {σ : ZM} (h : Shp σ) : zR σ 138 0 = 139 := h.2.2 138 0 (by unfold rfx; omega)
theorem r_140_0 {σ : ZM} (h : Shp σ) : zR σ 140 0 = 141 := h.2.2 140 0 (by unfold rfx; omega)
theorem r_142_0 {σ : ZM} (h : Shp σ) : zR σ 142 0 = 143 := h.2.2 142 0 (by unfold rfx; omega)
theorem r_146_0 {σ : ZM} (h : Shp σ) : zR σ 146 0 = 147 := h.2.2 146 0 (by unfold rfx; omega)
theorem r_146_1 {σ : ZM} (h : Shp σ) : zR σ 146 1 = 148 := h.2.2 146 1 (by unfold rfx; omega)
theorem r_146_2 {σ : ZM} (h : Shp σ) : zR σ 146 2 = 149 := h.2.2 146 2 (by unfold rfx; omega)
theorem r_146_3 {σ : ZM} (h : Shp σ) : zR σ 146 3 = 150 := h.2.2 146 3 (by unfold rfx; omega)
theorem r_152_0 {σ : ZM} (h : Shp σ) : zR σ 152 0 = 153 := h.2.2 152 0 (by unfold rfx; omega)
theorem r_154_0 {σ : ZM} (h : Shp σ) : zR σ 154 0 = 155 := h.2.2 154 0 (by unfold rfx; omega)
theorem r_154_1 {σ : ZM} (h : Shp σ) : zR σ 154 1 = 157 := h.2.2 154 1 (by unfold rfx; omega)
theorem r_158_0 {σ : ZM} (h : Shp σ) : zR σ 158 0 = 159 := h.2.2 158 0 (by unfold rfx; omega)
theorem r_192_0 {σ : ZM} (h : Shp σ) : zR σ 192 0 = 193 := h.2.2 192 0 (by unfold rfx; omega)
theorem r_192_1 {σ : ZM} (h : Shp σ) : zR σ 192 1 = 194 := h.2.2 192 1 (by unfold rfx; omega)
theorem r_192_2 {σ : ZM} (h : Shp σ) : zR σ 192 2 = 195 := h.2.2 192 2 (by unfold rfx; omega)
theorem r_192_3 {σ : ZM} (h : Shp σ) : zR σ 192 3 = 196 := h.2.2 192 3 (by unfold rfx; omega)
theorem r_192_4 {σ : ZM} (h : Shp σ) : zR σ 192 4 = 197 := h.2.2 192 4 (by unfold rfx; omega)
theorem r_192_5 {σ : ZM} (h : Shp σ) : zR σ 192 5 = 198 := h.2.2 192 5 (by unfold rfx; omega)
theorem r_192_7 {σ : ZM} (h : Shp σ) : zR σ 192 7 = 199 := h.2.2 192 7 (by unfold rfx; omega)
theorem r_192_8 {σ : ZM} (h : Shp σ) : zR σ 192 8 = 200 := h.2.2 192 8 (by unfold rfx; omega)
theorem r_192_14 {σ : ZM} (h : Shp σ) : zR σ 192 14 = 201 := h.2.2 192 14 (by unfold rfx; omega)
theorem r_192_16 {σ : ZM} (h : Shp σ) : zR σ 192 16 = 202 := h.2.2 192 16 (by unfold rfx; omega)
theorem r_192_17 {σ : ZM} (h : Shp σ) : zR σ 192 17 = 203 := h.2.2 192 17 (by unfold rfx; omega)
theorem r_192_18 {σ : ZM} (h : Shp σ) : zR σ 192 18 = 204 := h.2.2 192 18 (by unfold rfx; omega)
theorem r_192_19 {σ : ZM} (h : Shp σ) : zR σ 192 19 = 205 := h.2.2 192 19 (by unfold rfx; omega)
theorem r_192_20 {σ : ZM} (h : Shp σ) : zR σ 192 20 = 206 := h.2.2 192 20 (by unfold rfx; omega)
theorem r_192_22 {σ : ZM} (h : Shp σ) : zR σ 192 22 = 207 := h.2.2 192 22 (by unfold rfx; omega)
theorem r_192_23 {σ : ZM} (h : Shp σ) : zR σ 192 23 = 208 := h.2.2 192 23 (by unfold rfx; omega)
theorem r_192_25 {σ : ZM} (h : Shp σ) : zR σ 192 25 = 209 := h.2.2 192 25 (by unfold rfx; omega)
theorem r_192_26 {σ : ZM} (h : Shp σ) : zR σ 192 26 = 210 := h.2.2 192 26 (by unfold rfx; omega)
/-- only what P names has changed (references: none of the fixed ones) -/
def Fz (P : Nat → Int → Prop) (σ σ' : ZM) : Prop := zN σ' = zN σ ∧ (∀ a, zS σ' a = zS σ a) ∧ (∀ a j, rfx a j → zR σ' a j = zR σ a j) ∧ ∀ a j, ¬ P a j → zI σ' a j = zI σ a j ∧ zJ σ' a j = zJ σ a j ∧ zR σ' a j = zR σ a j
theorem Fz.rf {P : Nat → Int → Prop} {σ : ZM} : Fz P σ σ := ⟨rfl, fun _ => rfl, fun _ _ _ => rfl, fun _ _ _ => ⟨rfl, rfl, rfl⟩⟩
theorem Fz.tr {P : Nat → Int → Prop} {σ σ1 σ2 : ZM} (h1 : Fz P σ σ1) (h2 : Fz P σ1 σ2) : Fz P σ σ2 :=
  ⟨h2.1.trans h1.1, fun a => (h2.2.1 a).trans (h1.2.1 a), fun a j r => (h2.2.2.1 a j r).trans (h1.2.2.1 a j r), fun a j n => ⟨(h2.2.2.2 a j n).1.trans (h1.2.2.2 a j n).1, (h2.2.2.2 a j n).2.1.trans (h1.2.2.2 a j n).2.1, (h2.2.2.2 a j n).2.2.trans (h1.2.2.2 a j n).2.2⟩⟩
theorem Fz.mono {P P' : Nat → Int → Prop} {σ σ' : ZM} (h : Fz P σ σ') (hP : ∀ a j, P a j → P' a j) : Fz P' σ σ' := ⟨h.1, h.2.1, h.2.2.1, fun a j n => h.2.2.2 a j (fun q => n (hP a j q))⟩
theorem Fr.z {P : Nat → Prop} {P' : Nat → Int → Prop} {σ σ' : ZM} (h : Fr P σ σ') (hP : ∀ a j, P a → P' a j) : Fz P' σ σ' := ⟨h.1, h.2.1, fun a j _ => h.2.2.1 a j, fun a j n => ⟨(h.2.2.2 a (fun q => n (hP a j q))).1 j, (h.2.2.2 a (fun q => n (hP a j q))).2 j, h.2.2.1 a j⟩⟩
theorem Fz.wI {P : Nat → Int → Prop} {σ : ZM} {a : Nat} {i x : Int} (h : P a i) : Fz P σ (wI σ a i x) := ⟨rfl, fun _ => rfl, fun _ _ _ => rfl, fun c j hc => ⟨by rw [zI_wI, if_neg (fun q => hc (by rw [q.1, q.2]; exact h))], rfl, rfl⟩⟩
theorem Fz.wJ {P : Nat → Int → Prop} {σ : ZM} {a : Nat} {i : Int} {x : Int64} (h : P a i) : Fz P σ (wJ σ a i x) := ⟨rfl, fun _ => rfl, fun _ _ _ => rfl, fun c j hc => ⟨rfl, by rw [zJ_wJ, if_neg (fun q => hc (by rw [q.1, q.2]; exact h))], rfl⟩⟩
theorem Fz.wR {P : Nat → Int → Prop} {σ : ZM} {a : Nat} {i : Int} {x : Nat} (h : P a i) (hr : ¬ rfx a i) : Fz P σ (wR σ a i x) := ⟨rfl, fun _ => rfl, fun b j r => by rw [zR_wR, if_neg (fun q => hr (by rw [← q.1, ← q.2]; exact r))], fun c j hc => ⟨rfl, rfl, by rw [zR_wR, if_neg (fun q => hc (by rw [q.1, q.2]; exact h))]⟩⟩
theorem Fz.shp {P : Nat → Int → Prop} {σ σ' : ZM} (h : Fz P σ σ') (hs : Shp σ) : Shp σ' := ⟨h.1.trans hs.1, fun a a2 a3 => (h.2.1 a).trans (hs.2.1 a a2 a3), fun a j r => (h.2.2.1 a j r).trans (hs.2.2 a j r)⟩
theorem Fz.obj {P : Nat → Int → Prop} {σ σ' : ZM} (h : Fz P σ σ') {a c : Nat} (ho : zobj σ a c) : zobj σ' a c := by
  unfold zobj at ho ⊢
  rw [h.1, h.2.1]
  exact ho
theorem Fz.i {P : Nat → Int → Prop} {σ σ' : ZM} (h : Fz P σ σ') {a : Nat} {j : Int} (n : ¬ P a j) : zI σ' a j = zI σ a j := (h.2.2.2 a j n).1
theorem Fz.j {P : Nat → Int → Prop} {σ σ' : ZM} (h : Fz P σ σ') {a : Nat} {j : Int} (n : ¬ P a j) : zJ σ' a j = zJ σ a j := (h.2.2.2 a j n).2.1
theorem Fz.r {P : Nat → Int → Prop} {σ σ' : ZM} (h : Fz P σ σ') {a : Nat} {j : Int} (n : ¬ P a j) : zR σ' a j = zR σ a j := (h.2.2.2 a j n).2.2
theorem Fz.lz {P : Nat → Int → Prop} {σ σ' : ZM} (h : Fz P σ σ') {a : Nat} {l : List Int} (h1 : ∀ j, ¬ P a j) (h2 : ∀ j, ¬ P (a + 1) j) (hl : Lz σ a l) : Lz σ' a l := by
  obtain ⟨g1, g2, g3, g4⟩ := hl
  exact ⟨by rw [h.i (h1 _)]; exact g1, by rw [h.i (h1 _)]; exact g2, g3, fun i q1 q2 => by rw [h.i (h2 _)]; exact g4 i q1 q2⟩
theorem Fz.notes {P : Nat → Int → Prop} {σ σ' : ZM} (h : Fz P σ σ') (hP : ∀ a j, nfr a → ¬ P a j) {N : List (Int × List Int)} (n : NotesI σ N) : NotesI σ' N := by
  obtain ⟨nw, g1, g2, g3, g4, g5, g6⟩ := n
  refine ⟨nw, by rw [h.i (hP 10 _ (Or.inl rfl))]; exact g1, g2, g3, by rw [h.i (hP 10 _ (Or.inl rfl))]; exact g4, g5, fun k e he => ?_⟩
  have hb := nix_bd (nw := nw) (k := k)
  obtain ⟨q1, q2⟩ := g6 k e he
  exact ⟨by rw [h.i (hP 12 _ (Or.inr ⟨by omega, by omega⟩))]; exact q1, h.lz (fun j => hP _ j (Or.inr ⟨by omega, by omega⟩)) (fun j => hP _ j (Or.inr ⟨by omega, by omega⟩)) q2⟩
theorem Fz.shI {P : Nat → Int → Prop} {σ σ' : ZM} (h : Fz P σ σ') (hP : ∀ a j, 160 ≤ a → a < 176 → ¬ P a j) {S : Int → List Int} (n : ShI σ S) : ShI σ' S := fun s s0 s1 =>
  ⟨(n s s0 s1).1, h.lz (fun j => hP _ j (by omega) (by omega)) (fun j => hP _ j (by omega) (by omega)) (n s s0 s1).2⟩
theorem Fz.ai {P : Nat → Int → Prop} {σ σ' : ZM} (h : Fz P σ σ') (hP : ∀ a j, (nfr a ∨ (160 ≤ a ∧ a < 176)) → ¬ P a j) {S : Int → List Int} {N : List (Int × List Int)} (n : AI σ S N) : AI σ' S N :=
  ⟨h.shp n.1, h.notes (fun a j w => hP a j (Or.inl w)) n.2.1, h.shI (fun a j w1 w2 => hP a j (Or.inr ⟨w1, w2⟩)) n.2.2⟩
theorem Fz.ms {P : Nat → Int → Prop} {σ σ' : ZM} (h : Fz P σ σ') (h1 : ∀ j, ¬ P 194 j) (h2 : ∀ j, ¬ P 195 j) {M : Int → List Int} (m : MS σ M) : MS σ' M := fun s s0 s1 => by
  obtain ⟨g1, g2, g3⟩ := m s s0 s1
  exact ⟨by rw [h.i (h2 _)]; exact g1, g2, fun i i0 i1 => by rw [h.i (h1 _)]; exact g3 i i0 i1⟩
