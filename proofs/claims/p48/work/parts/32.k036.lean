noncomputable def zyc807 : zC := .inr (8, [zyv114, zyv15, zyv15, zyv15, zyv114, zyv114, zyv114, zyv114, zyv15, zyv114, zyv15, zyv15, zyv127, zyv17, zyv314, zyv35, zyv124, zyv114, zyv114, zyv114, zyv15, zyv36, zyv129, zyv114, zyv15, zyv114, zyv114, zyv15, zyv15, zyv114, zyv114, zyv114, zyv114, zyv114, zyv114, zyv114, zyv114, zyv114, zyv114, zyv15, zyv114, zyv114, zyv114, zyv114, zyv15, zyv15, zyv15, zyv15, zyv114, zyv114, zyv114])
noncomputable def zyr734 : List zC := [zyc60, zyc60, zyc60, zyc69, zyc10, zyc10, zyc10, zyc12, zyc70, zyc8, zyc8, zyc70, zyc8, zyc8, zyc807, zyc52]
noncomputable def zyh922 : zH := (126, [zyr9, zyr10, zyr11, zyr12, zyr13, zyr734, zyr6, zyr7], 0)
noncomputable def zyh923 : zH := (126, [zyr9, zyr10, zyr11, zyr12, zyr13, zyr734, zyr6, zyr7], zym9)
noncomputable def zyc808 : zC := .inr (8, [zyv114, zyv15, zyv15, zyv15, zyv114, zyv114, zyv114, zyv114, zyv15, zyv114, zyv15, zyv15, zyv127, zyv17, zyv314, zyv317, zyv239, zyv114, zyv114, zyv114, zyv15, zyv36, zyv129, zyv114, zyv15, zyv114, zyv114, zyv15, zyv15, zyv114, zyv114, zyv114, zyv114, zyv114, zyv114, zyv114, zyv114, zyv114, zyv114, zyv15, zyv114, zyv114, zyv114, zyv114, zyv15, zyv15, zyv15, zyv15, zyv114, zyv114, zyv114])
noncomputable def zyr735 : List zC := [zyc60, zyc60, zyc60, zyc69, zyc10, zyc10, zyc10, zyc12, zyc70, zyc8, zyc8, zyc70, zyc8, zyc8, zyc808, zyc52]
noncomputable def zyh924 : zH := (126, [zyr9, zyr10, zyr11, zyr12, zyr13, zyr735, zyr6, zyr7], zym9)
noncomputable def zyc809 : zC := .inr (8, [zyv114, zyv15, zyv15, zyv15, zyv114, zyv114, zyv114, zyv114, zyv15, zyv114, zyv15, zyv15, zyv127, zyv17, zyv314, zyv317, zyv124, zyv114, zyv114, zyv114, zyv15, zyv36, zyv129, zyv114, zyv15, zyv114, zyv114, zyv15, zyv15, zyv114, zyv114, zyv114, zyv114, zyv114, zyv114, zyv114, zyv114, zyv114, zyv114, zyv15, zyv114, zyv114, zyv114, zyv114, zyv15, zyv15, zyv15, zyv15, zyv114, zyv114, zyv114])
noncomputable def zyr736 : List zC := [zyc60, zyc60, zyc60, zyc69, zyc10, zyc10, zyc10, zyc12, zyc70, zyc8, zyc8, zyc70, zyc8, zyc8, zyc809, zyc52]
noncomputable def zyh925 : zH := (126, [zyr9, zyr10, zyr11, zyr12, zyr13, zyr736, zyr6, zyr7], 0)
noncomputable def zyh926 : zH := (126, [zyr9, zyr10, zyr11, zyr12, zyr13, zyr736, zyr6, zyr7], zym9)
noncomputable def zyc810 : zC := .inr (8, [zyv114, zyv15, zyv15, zyv15, zyv114, zyv114, zyv114, zyv114, zyv15, zyv114, zyv15, zyv15, zyv127, zyv17, zyv314, zyv319, zyv239, zyv114, zyv114, zyv114, zyv15, zyv36, zyv129, zyv114, zyv15, zyv114, zyv114, zyv15, zyv15, zyv114, zyv114, zyv114, zyv114, zyv114, zyv114, zyv114, zyv114, zyv114, zyv114, zyv15, zyv114, zyv114, zyv114, zyv114, zyv15, zyv15, zyv15, zyv15, zyv114, zyv114, zyv114])
noncomputable def zyr737 : List zC := [zyc60, zyc60, zyc60, zyc69, zyc10, zyc10, zyc10, zyc12, zyc70, zyc8, zyc8, zyc70, zyc8, zyc8, zyc810, zyc52]
noncomputable def zyh927 : zH := (126, [zyr9, zyr10, zyr11, zyr12, zyr13, zyr737, zyr6, zyr7], zym9)
noncomputable def zyc811 : zC := .inr (8, [zyv114, zyv15, zyv15, zyv15, zyv114, zyv114, zyv114, zyv114, zyv15, zyv114, zyv15, zyv15, zyv127, zyv17, zyv314, zyv319, zyv124, zyv114, zyv114, zyv114, zyv15, zyv36, zyv129, zyv114, zyv15, zyv114, zyv114, zyv15, zyv15, zyv114, zyv114, zyv114, zyv114, zyv114, zyv114, zyv114, zyv114, zyv114, zyv114, zyv15, zyv114, zyv114, zyv114, zyv114, zyv15, zyv15, zyv15, zyv15, zyv114, zyv114, zyv114])
noncomputable def zyr738 : List zC := [zyc60, zyc60, zyc60, zyc69, zyc10, zyc10, zyc10, zyc12, zyc70, zyc8, zyc8, zyc70, zyc8, zyc8, zyc811, zyc52]
noncomputable def zyh928 : zH := (126, [zyr9, zyr10, zyr11, zyr12, zyr13, zyr738, zyr6, zyr7], 0)
noncomputable def zyh929 : zH := (126, [zyr9, zyr10, zyr11, zyr12, zyr13, zyr738, zyr6, zyr7], zym9)
noncomputable def zyc812 : zC := .inr (8, [zyv114, zyv15, zyv15, zyv15, zyv114, zyv114, zyv114, zyv114, zyv15, zyv114, zyv15, zyv15, zyv127, zyv17, zyv314, zyv320, zyv239, zyv114, zyv114, zyv114, zyv15, zyv36, zyv129, zyv114, zyv15, zyv114, zyv114, zyv15, zyv15, zyv114, zyv114, zyv114, zyv114, zyv114, zyv114, zyv114, zyv114, zyv114, zyv114, zyv15, zyv114, zyv114, zyv114, zyv114, zyv15, zyv15, zyv15, zyv15, zyv114, zyv114, zyv114])
noncomputable def zyr739 : List zC := [zyc60, zyc60, zyc60, zyc69, zyc10, zyc10, zyc10, zyc12, zyc70, zyc8, zyc8, zyc70, zyc8, zyc8, zyc812, zyc52]
noncomputable def zyh930 : zH := (126, [zyr9, zyr10, zyr11, zyr12, zyr13, zyr739, zyr6, zyr7], zym9)
noncomputable def zyc813 : zC := .inr (8, [zyv114, zyv15, zyv15, zyv15, zyv114, zyv114, zyv114, zyv114, zyv15, zyv114, zyv15, zyv15, zyv127, zyv17, zyv314, zyv320, zyv124, zyv114, zyv114, zyv114, zyv15, zyv36, zyv129, zyv114, zyv15, zyv114, zyv114, zyv15, zyv15, zyv114, zyv114, zyv114, zyv114, zyv114, zyv114, zyv114, zyv114, zyv114, zyv114, zyv15, zyv114, zyv114, zyv114, zyv114, zyv15, zyv15, zyv15, zyv15, zyv114, zyv114, zyv114])
noncomputable def zyr740 : List zC := [zyc60, zyc60, zyc60, zyc69, zyc10, zyc10, zyc10, zyc12, zyc70, zyc8, zyc8, zyc70, zyc8, zyc8, zyc813, zyc52]
noncomputable def zyh931 : zH := (126, [zyr9, zyr10, zyr11, zyr12, zyr13, zyr740, zyr6, zyr7], 0)
noncomputable def zyh932 : zH := (126, [zyr9, zyr10, zyr11, zyr12, zyr13, zyr740, zyr6, zyr7], zym9)
noncomputable def zyc814 : zC := .inr (8, [zyv114, zyv15, zyv15, zyv15, zyv114, zyv114, zyv114, zyv114, zyv15, zyv114, zyv15, zyv15, zyv127, zyv17, zyv314, zyv321, zyv239, zyv114, zyv114, zyv114, zyv15, zyv36, zyv129, zyv114, zyv15, zyv114, zyv114, zyv15, zyv15, zyv114, zyv114, zyv114, zyv114, zyv114, zyv114, zyv114, zyv114, zyv114, zyv114, zyv15, zyv114, zyv114, zyv114, zyv114, zyv15, zyv15, zyv15, zyv15, zyv114, zyv114, zyv114])
noncomputable def zyr741 : List zC := [zyc60, zyc60, zyc60, zyc69, zyc10, zyc10, zyc10, zyc12, zyc70, zyc8, zyc8, zyc70, zyc8, zyc8, zyc814, zyc52]
noncomputable def zyh933 : zH := (126, [zyr9, zyr10, zyr11, zyr12, zyr13, zyr741, zyr6, zyr7], zym9)
noncomputable def zyc815 : zC := .inr (8, [zyv114, zyv15, zyv15, zyv15, zyv114, zyv114, zyv114, zyv114, zyv15, zyv114, zyv15, zyv15, zyv127, zyv17, zyv314, zyv321, zyv124, zyv114, zyv114, zyv114, zyv15, zyv36, zyv129, zyv114, zyv15, zyv114, zyv114, zyv15, zyv15, zyv114, zyv114, zyv114, zyv114, zyv114, zyv114, zyv114, zyv114, zyv114, zyv114, zyv15, zyv114, zyv114, zyv114, zyv114, zyv15, zyv15, zyv15, zyv15, zyv114, zyv114, zyv114])
noncomputable def zyr742 : List zC := [zyc60, zyc60, zyc60, zyc69, zyc10, zyc10, zyc10, zyc12, zyc70, zyc8, zyc8, zyc70, zyc8, zyc8, zyc815, zyc52]
noncomputable def zyh934 : zH := (126, [zyr9, zyr10, zyr11, zyr12, zyr13, zyr742, zyr6, zyr7], 0)
noncomputable def zyh935 : zH := (126, [zyr9, zyr10, zyr11, zyr12, zyr13, zyr742, zyr6, zyr7], zym9)
noncomputable def zyc816 : zC := .inr (8, [zyv114, zyv15, zyv15, zyv15, zyv114, zyv114, zyv114, zyv114, zyv15, zyv114, zyv15, zyv15, zyv127, zyv17, zyv314, zyv322, zyv239, zyv114, zyv114, zyv114, zyv15, zyv36, zyv129, zyv114, zyv15, zyv114, zyv114, zyv15, zyv15, zyv114, zyv114, zyv114, zyv114, zyv114, zyv114, zyv114, zyv114, zyv114, zyv114, zyv15, zyv114, zyv114, zyv114, zyv114, zyv15, zyv15, zyv15, zyv15, zyv114, zyv114, zyv114])
noncomputable def zyr743 : List zC := [zyc60, zyc60, zyc60, zyc69, zyc10, zyc10, zyc10, zyc12, zyc70, zyc8, zyc8, zyc70, zyc8, zyc8, zyc816, zyc52]
noncomputable def zyh936 : zH := (126, [zyr9, zyr10, zyr11, zyr12, zyr13, zyr743, zyr6, zyr7], zym9)
noncomputable def zyc817 : zC := .inr (8, [zyv114, zyv15, zyv15, zyv15, zyv114, zyv114, zyv114, zyv114, zyv15, zyv114, zyv15, zyv15, zyv127, zyv17, zyv314, zyv322, zyv124, zyv114, zyv114, zyv114, zyv15, zyv36, zyv129, zyv114, zyv15, zyv114, zyv114, zyv15, zyv15, zyv114, zyv114, zyv114, zyv114, zyv114, zyv114, zyv114, zyv114, zyv114, zyv114, zyv15, zyv114, zyv114, zyv114, zyv114, zyv15, zyv15, zyv15, zyv15, zyv114, zyv114, zyv114])
noncomputable def zyr744 : List zC := [zyc60, zyc60, zyc60, zyc69, zyc10, zyc10, zyc10, zyc12, zyc70, zyc8, zyc8, zyc70, zyc8, zyc8, zyc817, zyc52]
noncomputable def zyh937 : zH := (126, [zyr9, zyr10, zyr11, zyr12, zyr13, zyr744, zyr6, zyr7], 0)
noncomputable def zyh938 : zH := (126, [zyr9, zyr10, zyr11, zyr12, zyr13, zyr744, zyr6, zyr7], zym9)
noncomputable def zyc818 : zC := .inr (8, [zyv114, zyv15, zyv15, zyv15, zyv114, zyv114, zyv114, zyv114, zyv15, zyv114, zyv15, zyv15, zyv127, zyv17, zyv314, zyv323, zyv239, zyv114, zyv114, zyv114, zyv15, zyv36, zyv129, zyv114, zyv15, zyv114, zyv114, zyv15, zyv15, zyv114, zyv114, zyv114, zyv114, zyv114, zyv114, zyv114, zyv114, zyv114, zyv114, zyv15, zyv114, zyv114, zyv114, zyv114, zyv15, zyv15, zyv15, zyv15, zyv114, zyv114, zyv114])
noncomputable def zyr745 : List zC := [zyc60, zyc60, zyc60, zyc69, zyc10, zyc10, zyc10, zyc12, zyc70, zyc8, zyc8, zyc70, zyc8, zyc8, zyc818, zyc52]
noncomputable def zyh939 : zH := (126, [zyr9, zyr10, zyr11, zyr12, zyr13, zyr745, zyr6, zyr7], zym9)
noncomputable def zyc819 : zC := .inr (8, [zyv114, zyv15, zyv15, zyv15, zyv114, zyv114, zyv114, zyv114, zyv15, zyv114, zyv15, zyv15, zyv127, zyv17, zyv314, zyv323, zyv124, zyv114, zyv114, zyv114, zyv15, zyv36, zyv129, zyv114, zyv15, zyv114, zyv114, zyv15, zyv15, zyv114, zyv114, zyv114, zyv114, zyv114, zyv114, zyv114, zyv114, zyv114, zyv114, zyv15, zyv114, zyv114, zyv114, zyv114, zyv15, zyv15, zyv15, zyv15, zyv114, zyv114, zyv114])
noncomputable def zyr746 : List zC := [zyc60, zyc60, zyc60, zyc69, zyc10, zyc10, zyc10, zyc12, zyc70, zyc8, zyc8, zyc70, zyc8, zyc8, zyc819, zyc52]
noncomputable def zyh940 : zH := (126, [zyr9, zyr10, zyr11, zyr12, zyr13, zyr746, zyr6, zyr7], 0)
noncomputable def zyh941 : zH := (126, [zyr9, zyr10, zyr11, zyr12, zyr13, zyr746, zyr6, zyr7], zym9)
noncomputable def zyc820 : zC := .inr (8, [zyv114, zyv15, zyv15, zyv15, zyv114, zyv114, zyv114, zyv114, zyv15, zyv114, zyv15, zyv15, zyv127, zyv17, zyv314, zyv324, zyv239, zyv114, zyv114, zyv114, zyv15, zyv36, zyv129, zyv114, zyv15, zyv114, zyv114, zyv15, zyv15, zyv114, zyv114, zyv114, zyv114, zyv114, zyv114, zyv114, zyv114, zyv114, zyv114, zyv15, zyv114, zyv114, zyv114, zyv114, zyv15, zyv15, zyv15, zyv15, zyv114, zyv114, zyv114])
noncomputable def zyr747 : List zC := [zyc60, zyc60, zyc60, zyc69, zyc10, zyc10, zyc10, zyc12, zyc70, zyc8, zyc8, zyc70, zyc8, zyc8, zyc820, zyc52]
noncomputable def zyh942 : zH := (126, [zyr9, zyr10, zyr11, zyr12, zyr13, zyr747, zyr6, zyr7], zym9)
noncomputable def zyc821 : zC := .inr (8, [zyv114, zyv15, zyv15, zyv15, zyv114, zyv114, zyv114, zyv114, zyv15, zyv114, zyv15, zyv15, zyv127, zyv17, zyv314, zyv324, zyv124, zyv114, zyv114, zyv114, zyv15, zyv36, zyv129, zyv114, zyv15, zyv114, zyv114, zyv15, zyv15, zyv114, zyv114, zyv114, zyv114, zyv114, zyv114, zyv114, zyv114, zyv114, zyv114, zyv15, zyv114, zyv114, zyv114, zyv114, zyv15, zyv15, zyv15, zyv15, zyv114, zyv114, zyv114])
noncomputable def zyr748 : List zC := [zyc60, zyc60, zyc60, zyc69, zyc10, zyc10, zyc10, zyc12, zyc70, zyc8, zyc8, zyc70, zyc8, zyc8, zyc821, zyc52]
noncomputable def zyh943 : zH := (126, [zyr9, zyr10, zyr11, zyr12, zyr13, zyr748, zyr6, zyr7], 0)
noncomputable def zyh944 : zH := (126, [zyr9, zyr10, zyr11, zyr12, zyr13, zyr748, zyr6, zyr7], zym9)
noncomputable def zyc822 : zC := .inr (8, [zyv114, zyv15, zyv15, zyv15, zyv114, zyv114, zyv114, zyv114, zyv15, zyv114, zyv15, zyv15, zyv127, zyv17, zyv314, zyv325, zyv239, zyv114, zyv114, zyv114, zyv15, zyv36, zyv129, zyv114, zyv15, zyv114, zyv114, zyv15, zyv15, zyv114, zyv114, zyv114, zyv114, zyv114, zyv114, zyv114, zyv114, zyv114, zyv114, zyv15, zyv114, zyv114, zyv114, zyv114, zyv15, zyv15, zyv15, zyv15, zyv114, zyv114, zyv114])
noncomputable def zyr749 : List zC := [zyc60, zyc60, zyc60, zyc69, zyc10, zyc10, zyc10, zyc12, zyc70, zyc8, zyc8, zyc70, zyc8, zyc8, zyc822, zyc52]
noncomputable def zyh945 : zH := (126, [zyr9, zyr10, zyr11, zyr12, zyr13, zyr749, zyr6, zyr7], zym9)
noncomputable def zyc823 : zC := .inr (8, [zyv114, zyv15, zyv15, zyv15, zyv114, zyv114, zyv114, zyv114, zyv15, zyv114, zyv15, zyv15, zyv127, zyv17, zyv314, zyv325, zyv124, zyv114, zyv114, zyv114, zyv15, zyv36, zyv129, zyv114, zyv15, zyv114, zyv114, zyv15, zyv15, zyv114, zyv114, zyv114, zyv114, zyv114, zyv114, zyv114, zyv114, zyv114, zyv114, zyv15, zyv114, zyv114, zyv114, zyv114, zyv15, zyv15, zyv15, zyv15, zyv114, zyv114, zyv114])
noncomputable def zyr750 : List zC := [zyc60, zyc60, zyc60, zyc69, zyc10, zyc10, zyc10, zyc12, zyc70, zyc8, zyc8, zyc70, zyc8, zyc8, zyc823, zyc52]
noncomputable def zyh946 : zH := (126, [zyr9, zyr10, zyr11, zyr12, zyr13, zyr750, zyr6, zyr7], 0)
noncomputable def zyh947 : zH := (126, [zyr9, zyr10, zyr11, zyr12, zyr13, zyr750, zyr6, zyr7], zym9)
noncomputable def zyc824 : zC := .inr (8, [zyv114, zyv15, zyv15, zyv15, zyv114, zyv114, zyv114, zyv114, zyv15, zyv114, zyv15, zyv15, zyv127, zyv17, zyv314, zyv326, zyv239, zyv114, zyv114, zyv114, zyv15, zyv36, zyv129, zyv114, zyv15, zyv114, zyv114, zyv15, zyv15, zyv114, zyv114, zyv114, zyv114, zyv114, zyv114, zyv114, zyv114, zyv114, zyv114, zyv15, zyv114, zyv114, zyv114, zyv114, zyv15, zyv15, zyv15, zyv15, zyv114, zyv114, zyv114])
noncomputable def zyr751 : List zC := [zyc60, zyc60, zyc60, zyc69, zyc10, zyc10, zyc10, zyc12, zyc70, zyc8, zyc8, zyc70, zyc8, zyc8, zyc824, zyc52]
noncomputable def zyh948 : zH := (126, [zyr9, zyr10, zyr11, zyr12, zyr13, zyr751, zyr6, zyr7], zym9)
noncomputable def zyc825 : zC := .inr (8, [zyv114, zyv15, zyv15, zyv15, zyv114, zyv114, zyv114, zyv114, zyv15, zyv114, zyv15, zyv15, zyv127, zyv17, zyv314, zyv326, zyv124, zyv114, zyv114, zyv114, zyv15, zyv36, zyv129, zyv114, zyv15, zyv114, zyv114, zyv15, zyv15, zyv114, zyv114, zyv114, zyv114, zyv114, zyv114, zyv114, zyv114, zyv114, zyv114, zyv15, zyv114, zyv114, zyv114, zyv114, zyv15, zyv15, zyv15, zyv15, zyv114, zyv114, zyv114])
noncomputable def zyr752 : List zC := [zyc60, zyc60, zyc60, zyc69, zyc10, zyc10, zyc10, zyc12, zyc70, zyc8, zyc8, zyc70, zyc8, zyc8, zyc825, zyc52]
noncomputable def zyh949 : zH := (126, [zyr9, zyr10, zyr11, zyr12, zyr13, zyr752, zyr6, zyr7], 0)
noncomputable def zyh950 : zH := (126, [zyr9, zyr10, zyr11, zyr12, zyr13, zyr752, zyr6, zyr7], zym9)
noncomputable def zyc826 : zC := .inr (8, [zyv114, zyv15, zyv15, zyv15, zyv114, zyv114, zyv114, zyv114, zyv15, zyv114, zyv15, zyv15, zyv127, zyv17, zyv314, zyv327, zyv239, zyv114, zyv114, zyv114, zyv15, zyv36, zyv129, zyv114, zyv15, zyv114, zyv114, zyv15, zyv15, zyv114, zyv114, zyv114, zyv114, zyv114, zyv114, zyv114, zyv114, zyv114, zyv114, zyv15, zyv114, zyv114, zyv114, zyv114, zyv15, zyv15, zyv15, zyv15, zyv114, zyv114, zyv114])
noncomputable def zyr753 : List zC := [zyc60, zyc60, zyc60, zyc69, zyc10, zyc10, zyc10, zyc12, zyc70, zyc8, zyc8, zyc70, zyc8, zyc8, zyc826, zyc52]
noncomputable def zyh951 : zH := (126, [zyr9, zyr10, zyr11, zyr12, zyr13, zyr753, zyr6, zyr7], zym9)
noncomputable def zyc827 : zC := .inr (8, [zyv114, zyv15, zyv15, zyv15, zyv114, zyv114, zyv114, zyv114, zyv15, zyv114, zyv15, zyv15, zyv127, zyv17, zyv314, zyv328, zyv124, zyv114, zyv114, zyv114, zyv15, zyv36, zyv129, zyv114, zyv15, zyv114, zyv114, zyv15, zyv15, zyv114, zyv114, zyv114, zyv114, zyv114, zyv114, zyv114, zyv114, zyv114, zyv114, zyv15, zyv114, zyv114, zyv114, zyv114, zyv15, zyv15, zyv15, zyv15, zyv114, zyv114, zyv114])
noncomputable def zyr754 : List zC := [zyc60, zyc60, zyc60, zyc69, zyc10, zyc10, zyc10, zyc12, zyc70, zyc8, zyc8, zyc70, zyc8, zyc8, zyc827, zyc52]
noncomputable def zyh952 : zH := (126, [zyr9, zyr10, zyr11, zyr12, zyr13, zyr754, zyr6, zyr7], 0)
noncomputable def zyh953 : zH := (126, [zyr9, zyr10, zyr11, zyr12, zyr13, zyr754, zyr6, zyr7], zym9)
noncomputable def zyc828 : zC := .inr (8, [zyv114, zyv15, zyv15, zyv15, zyv114, zyv114, zyv114, zyv114, zyv15, zyv114, zyv15, zyv15, zyv127, zyv17, zyv314, zyv329, zyv239, zyv114, zyv114, zyv114, zyv15, zyv36, zyv129, zyv114, zyv15, zyv114, zyv114, zyv15, zyv15, zyv114, zyv114, zyv114, zyv114, zyv114, zyv114, zyv114, zyv114, zyv114, zyv114, zyv15, zyv114, zyv114, zyv114, zyv114, zyv15, zyv15, zyv15, zyv15, zyv114, zyv114, zyv114])
noncomputable def zyr755 : List zC := [zyc60, zyc60, zyc60, zyc69, zyc10, zyc10, zyc10, zyc12, zyc70, zyc8, zyc8, zyc70, zyc8, zyc8, zyc828, zyc52]
noncomputable def zyh954 : zH := (126, [zyr9, zyr10, zyr11, zyr12, zyr13, zyr755, zyr6, zyr7], zym9)
noncomputable def zyc829 : zC := .inr (8, [zyv114, zyv15, zyv15, zyv15, zyv114, zyv114, zyv114, zyv114, zyv15, zyv114, zyv15, zyv15, zyv127, zyv17, zyv314, zyv329, zyv124, zyv114, zyv114, zyv114, zyv15, zyv36, zyv129, zyv114, zyv15, zyv114, zyv114, zyv15, zyv15, zyv114, zyv114, zyv114, zyv114, zyv114, zyv114, zyv114, zyv114, zyv114, zyv114, zyv15, zyv114, zyv114, zyv114, zyv114, zyv15, zyv15, zyv15, zyv15, zyv114, zyv114, zyv114])
noncomputable def zyr756 : List zC := [zyc60, zyc60, zyc60, zyc69, zyc10, zyc10, zyc10, zyc12, zyc70, zyc8, zyc8, zyc70, zyc8, zyc8, zyc829, zyc52]
noncomputable def zyh955 : zH := (126, [zyr9, zyr10, zyr11, zyr12, zyr13, zyr756, zyr6, zyr7], 0)
noncomputable def zyh956 : zH := (126, [zyr9, zyr10, zyr11, zyr12, zyr13, zyr756, zyr6, zyr7], zym9)
noncomputable def zyc830 : zC := .inr (8, [zyv114, zyv15, zyv15, zyv15, zyv114, zyv114, zyv114, zyv114, zyv15, zyv114, zyv15, zyv15, zyv127, zyv17, zyv314, zyv330, zyv239, zyv114, zyv114, zyv114, zyv15, zyv36, zyv129, zyv114, zyv15, zyv114, zyv114, zyv15, zyv15, zyv114, zyv114, zyv114, zyv114, zyv114, zyv114, zyv114, zyv114, zyv114, zyv114, zyv15, zyv114, zyv114, zyv114, zyv114, zyv15, zyv15, zyv15, zyv15, zyv114, zyv114, zyv114])
noncomputable def zyr757 : List zC := [zyc60, zyc60, zyc60, zyc69, zyc10, zyc10, zyc10, zyc12, zyc70, zyc8, zyc8, zyc70, zyc8, zyc8, zyc830, zyc52]
noncomputable def zyh957 : zH := (126, [zyr9, zyr10, zyr11, zyr12, zyr13, zyr757, zyr6, zyr7], zym9)
noncomputable def zyc831 : zC := .inr (8, [zyv114, zyv15, zyv15, zyv15, zyv114, zyv114, zyv114, zyv114, zyv15, zyv114, zyv15, zyv15, zyv127, zyv17, zyv314, zyv330, zyv124, zyv114, zyv114, zyv114, zyv15, zyv36, zyv129, zyv114, zyv15, zyv114, zyv114, zyv15, zyv15, zyv114, zyv114, zyv114, zyv114, zyv114, zyv114, zyv114, zyv114, zyv114, zyv114, zyv15, zyv114, zyv114, zyv114, zyv114, zyv15, zyv15, zyv15, zyv15, zyv114, zyv114, zyv114])
noncomputable def zyr758 : List zC := [zyc60, zyc60, zyc60, zyc69, zyc10, zyc10, zyc10, zyc12, zyc70, zyc8, zyc8, zyc70, zyc8, zyc8, zyc831, zyc52]
noncomputable def zyh958 : zH := (126, [zyr9, zyr10, zyr11, zyr12, zyr13, zyr758, zyr6, zyr7], 0)
noncomputable def zyh959 : zH := (126, [zyr9, zyr10, zyr11, zyr12, zyr13, zyr758, zyr6, zyr7], zym9)
noncomputable def zyc832 : zC := .inr (8, [zyv114, zyv15, zyv15, zyv15, zyv114, zyv114, zyv114, zyv114, zyv15, zyv114, zyv15, zyv15, zyv127, zyv17, zyv314, zyv331, zyv239, zyv114, zyv114, zyv114, zyv15, zyv36, zyv129, zyv114, zyv15, zyv114, zyv114, zyv15, zyv15, zyv114, zyv114, zyv114, zyv114, zyv114, zyv114, zyv114, zyv114, zyv114, zyv114, zyv15, zyv114, zyv114, zyv114, zyv114, zyv15, zyv15, zyv15, zyv15, zyv114, zyv114, zyv114])
noncomputable def zyr759 : List zC := [zyc60, zyc60, zyc60, zyc69, zyc10, zyc10, zyc10, zyc12, zyc70, zyc8, zyc8, zyc70, zyc8, zyc8, zyc832, zyc52]
noncomputable def zyh960 : zH := (126, [zyr9, zyr10, zyr11, zyr12, zyr13, zyr759, zyr6, zyr7], zym9)
noncomputable def zyc833 : zC := .inr (8, [zyv114, zyv15, zyv15, zyv15, zyv114, zyv114, zyv114, zyv114, zyv15, zyv114, zyv15, zyv15, zyv127, zyv17, zyv314, zyv331, zyv124, zyv114, zyv114, zyv114, zyv15, zyv36, zyv129, zyv114, zyv15, zyv114, zyv114, zyv15, zyv15, zyv114, zyv114, zyv114, zyv114, zyv114, zyv114, zyv114, zyv114, zyv114, zyv114, zyv15, zyv114, zyv114, zyv114, zyv114, zyv15, zyv15, zyv15, zyv15, zyv114, zyv114, zyv114])
noncomputable def zyr760 : List zC := [zyc60, zyc60, zyc60, zyc69, zyc10, zyc10, zyc10, zyc12, zyc70, zyc8, zyc8, zyc70, zyc8, zyc8, zyc833, zyc52]
noncomputable def zyh961 : zH := (126, [zyr9, zyr10, zyr11, zyr12, zyr13, zyr760, zyr6, zyr7], 0)
noncomputable def zyh962 : zH := (126, [zyr9, zyr10, zyr11, zyr12, zyr13, zyr760, zyr6, zyr7], zym9)
noncomputable def zyc834 : zC := .inr (8, [zyv114, zyv15, zyv15, zyv15, zyv114, zyv114, zyv114, zyv114, zyv15, zyv114, zyv15, zyv15, zyv127, zyv17, zyv314, zyv332, zyv239, zyv114, zyv114, zyv114, zyv15, zyv36, zyv129, zyv114, zyv15, zyv114, zyv114, zyv15, zyv15, zyv114, zyv114, zyv114, zyv114, zyv114, zyv114, zyv114, zyv114, zyv114, zyv114, zyv15, zyv114, zyv114, zyv114, zyv114, zyv15, zyv15, zyv15, zyv15, zyv114, zyv114, zyv114])
noncomputable def zyr761 : List zC := [zyc60, zyc60, zyc60, zyc69, zyc10, zyc10, zyc10, zyc12, zyc70, zyc8, zyc8, zyc70, zyc8, zyc8, zyc834, zyc52]
noncomputable def zyh963 : zH := (126, [zyr9, zyr10, zyr11, zyr12, zyr13, zyr761, zyr6, zyr7], zym9)
noncomputable def zyc835 : zC := .inr (8, [zyv114, zyv15, zyv15, zyv15, zyv114, zyv114, zyv114, zyv114, zyv15, zyv114, zyv15, zyv15, zyv127, zyv17, zyv314, zyv332, zyv124, zyv114, zyv114, zyv114, zyv15, zyv36, zyv129, zyv114, zyv15, zyv114, zyv114, zyv15, zyv15, zyv114, zyv114, zyv114, zyv114, zyv114, zyv114, zyv114, zyv114, zyv114, zyv114, zyv15, zyv114, zyv114, zyv114, zyv114, zyv15, zyv15, zyv15, zyv15, zyv114, zyv114, zyv114])
noncomputable def zyr762 : List zC := [zyc60, zyc60, zyc60, zyc69, zyc10, zyc10, zyc10, zyc12, zyc70, zyc8, zyc8, zyc70, zyc8, zyc8, zyc835, zyc52]
noncomputable def zyh964 : zH := (126, [zyr9, zyr10, zyr11, zyr12, zyr13, zyr762, zyr6, zyr7], 0)
noncomputable def zyh965 : zH := (126, [zyr9, zyr10, zyr11, zyr12, zyr13, zyr762, zyr6, zyr7], zym9)
noncomputable def zyc836 : zC := .inr (8, [zyv114, zyv15, zyv15, zyv15, zyv114, zyv114, zyv114, zyv114, zyv15, zyv114, zyv15, zyv15, zyv127, zyv17, zyv314, zyv333, zyv239, zyv114, zyv114, zyv114, zyv15, zyv36, zyv129, zyv114, zyv15, zyv114, zyv114, zyv15, zyv15, zyv114, zyv114, zyv114, zyv114, zyv114, zyv114, zyv114, zyv114, zyv114, zyv114, zyv15, zyv114, zyv114, zyv114, zyv114, zyv15, zyv15, zyv15, zyv15, zyv114, zyv114, zyv114])
noncomputable def zyr763 : List zC := [zyc60, zyc60, zyc60, zyc69, zyc10, zyc10, zyc10, zyc12, zyc70, zyc8, zyc8, zyc70, zyc8, zyc8, zyc836, zyc52]
noncomputable def zyh966 : zH := (126, [zyr9, zyr10, zyr11, zyr12, zyr13, zyr763, zyr6, zyr7], zym9)
noncomputable def zyc837 : zC := .inr (8, [zyv114, zyv15, zyv15, zyv15, zyv114, zyv114, zyv114, zyv114, zyv15, zyv114, zyv15, zyv15, zyv127, zyv17, zyv314, zyv333, zyv124, zyv114, zyv114, zyv114, zyv15, zyv36, zyv129, zyv114, zyv15, zyv114, zyv114, zyv15, zyv15, zyv114, zyv114, zyv114, zyv114, zyv114, zyv114, zyv114, zyv114, zyv114, zyv114, zyv15, zyv114, zyv114, zyv114, zyv114, zyv15, zyv15, zyv15, zyv15, zyv114, zyv114, zyv114])
noncomputable def zyr764 : List zC := [zyc60, zyc60, zyc60, zyc69, zyc10, zyc10, zyc10, zyc12, zyc70, zyc8, zyc8, zyc70, zyc8, zyc8, zyc837, zyc52]
noncomputable def zyh967 : zH := (126, [zyr9, zyr10, zyr11, zyr12, zyr13, zyr764, zyr6, zyr7], 0)
noncomputable def zyh968 : zH := (126, [zyr9, zyr10, zyr11, zyr12, zyr13, zyr764, zyr6, zyr7], zym9)
noncomputable def zyc838 : zC := .inr (8, [zyv114, zyv15, zyv15, zyv15, zyv114, zyv114, zyv114, zyv114, zyv15, zyv114, zyv15, zyv15, zyv127, zyv17, zyv314, zyv334, zyv239, zyv114, zyv114, zyv114, zyv15, zyv36, zyv129, zyv114, zyv15, zyv114, zyv114, zyv15, zyv15, zyv114, zyv114, zyv114, zyv114, zyv114, zyv114, zyv114, zyv114, zyv114, zyv114, zyv15, zyv114, zyv114, zyv114, zyv114, zyv15, zyv15, zyv15, zyv15, zyv114, zyv114, zyv114])
noncomputable def zyr765 : List zC := [zyc60, zyc60, zyc60, zyc69, zyc10, zyc10, zyc10, zyc12, zyc70, zyc8, zyc8, zyc70, zyc8, zyc8, zyc838, zyc52]
noncomputable def zyh969 : zH := (126, [zyr9, zyr10, zyr11, zyr12, zyr13, zyr765, zyr6, zyr7], zym9)
noncomputable def zyc839 : zC := .inr (8, [zyv114, zyv15, zyv15, zyv15, zyv114, zyv114, zyv114, zyv114, zyv15, zyv114, zyv15, zyv15, zyv127, zyv17, zyv314, zyv334, zyv124, zyv114, zyv114, zyv114, zyv15, zyv36, zyv129, zyv114, zyv15, zyv114, zyv114, zyv15, zyv15, zyv114, zyv114, zyv114, zyv114, zyv114, zyv114, zyv114, zyv114, zyv114, zyv114, zyv15, zyv114, zyv114, zyv114, zyv114, zyv15, zyv15, zyv15, zyv15, zyv114, zyv114, zyv114])
noncomputable def zyr766 : List zC := [zyc60, zyc60, zyc60, zyc69, zyc10, zyc10, zyc10, zyc12, zyc70, zyc8, zyc8, zyc70, zyc8, zyc8, zyc839, zyc52]
noncomputable def zyh970 : zH := (126, [zyr9, zyr10, zyr11, zyr12, zyr13, zyr766, zyr6, zyr7], 0)
noncomputable def zyh971 : zH := (126, [zyr9, zyr10, zyr11, zyr12, zyr13, zyr766, zyr6, zyr7], zym9)
noncomputable def zyc840 : zC := .inr (8, [zyv114, zyv15, zyv15, zyv15, zyv114, zyv114, zyv114, zyv114, zyv15, zyv114, zyv15, zyv15, zyv127, zyv17, zyv314, zyv335, zyv239, zyv114, zyv114, zyv114, zyv15, zyv36, zyv129, zyv114, zyv15, zyv114, zyv114, zyv15, zyv15, zyv114, zyv114, zyv114, zyv114, zyv114, zyv114, zyv114, zyv114, zyv114, zyv114, zyv15, zyv114, zyv114, zyv114, zyv114, zyv15, zyv15, zyv15, zyv15, zyv114, zyv114, zyv114])
noncomputable def zyr767 : List zC := [zyc60, zyc60, zyc60, zyc69, zyc10, zyc10, zyc10, zyc12, zyc70, zyc8, zyc8, zyc70, zyc8, zyc8, zyc840, zyc52]
noncomputable def zyh972 : zH := (126, [zyr9, zyr10, zyr11, zyr12, zyr13, zyr767, zyr6, zyr7], zym9)
noncomputable def zyc841 : zC := .inr (8, [zyv114, zyv15, zyv15, zyv15, zyv114, zyv114, zyv114, zyv114, zyv15, zyv114, zyv15, zyv15, zyv127, zyv17, zyv314, zyv335, zyv124, zyv114, zyv114, zyv114, zyv15, zyv36, zyv129, zyv114, zyv15, zyv114, zyv114, zyv15, zyv15, zyv114, zyv114, zyv114, zyv114, zyv114, zyv114, zyv114, zyv114, zyv114, zyv114, zyv15, zyv114, zyv114, zyv114, zyv114, zyv15, zyv15, zyv15, zyv15, zyv114, zyv114, zyv114])
noncomputable def zyr768 : List zC := [zyc60, zyc60, zyc60, zyc69, zyc10, zyc10, zyc10, zyc12, zyc70, zyc8, zyc8, zyc70, zyc8, zyc8, zyc841, zyc52]
noncomputable def zyh973 : zH := (126, [zyr9, zyr10, zyr11, zyr12, zyr13, zyr768, zyr6, zyr7], 0)
noncomputable def zyh974 : zH := (126, [zyr9, zyr10, zyr11, zyr12, zyr13, zyr768, zyr6, zyr7], zym9)
noncomputable def zyc842 : zC := .inr (8, [zyv114, zyv15, zyv15, zyv15, zyv114, zyv114, zyv114, zyv114, zyv15, zyv114, zyv15, zyv15, zyv127, zyv17, zyv314, zyv336, zyv239, zyv114, zyv114, zyv114, zyv15, zyv36, zyv129, zyv114, zyv15, zyv114, zyv114, zyv15, zyv15, zyv114, zyv114, zyv114, zyv114, zyv114, zyv114, zyv114, zyv114, zyv114, zyv114, zyv15, zyv114, zyv114, zyv114, zyv114, zyv15, zyv15, zyv15, zyv15, zyv114, zyv114, zyv114])
noncomputable def zyr769 : List zC := [zyc60, zyc60, zyc60, zyc69, zyc10, zyc10, zyc10, zyc12, zyc70, zyc8, zyc8, zyc70, zyc8, zyc8, zyc842, zyc52]
noncomputable def zyh975 : zH := (126, [zyr9, zyr10, zyr11, zyr12, zyr13, zyr769, zyr6, zyr7], zym9)
noncomputable def zyc843 : zC := .inr (8, [zyv114, zyv15, zyv15, zyv15, zyv114, zyv114, zyv114, zyv114, zyv15, zyv114, zyv15, zyv15, zyv127, zyv17, zyv314, zyv336, zyv124, zyv114, zyv114, zyv114, zyv15, zyv36, zyv129, zyv114, zyv15, zyv114, zyv114, zyv15, zyv15, zyv114, zyv114, zyv114, zyv114, zyv114, zyv114, zyv114, zyv114, zyv114, zyv114, zyv15, zyv114, zyv114, zyv114, zyv114, zyv15, zyv15, zyv15, zyv15, zyv114, zyv114, zyv114])
noncomputable def zyr770 : List zC := [zyc60, zyc60, zyc60, zyc69, zyc10, zyc10, zyc10, zyc12, zyc70, zyc8, zyc8, zyc70, zyc8, zyc8, zyc843, zyc52]
noncomputable def zyh976 : zH := (126, [zyr9, zyr10, zyr11, zyr12, zyr13, zyr770, zyr6, zyr7], 0)
noncomputable def zyh977 : zH := (126, [zyr9, zyr10, zyr11, zyr12, zyr13, zyr770, zyr6, zyr7], zym9)
noncomputable def zyc844 : zC := .inr (8, [zyv114, zyv15, zyv15, zyv15, zyv114, zyv114, zyv114, zyv114, zyv15, zyv114, zyv15, zyv15, zyv127, zyv17, zyv314, zyv337, zyv239, zyv114, zyv114, zyv114, zyv15, zyv36, zyv129, zyv114, zyv15, zyv114, zyv114, zyv15, zyv15, zyv114, zyv114, zyv114, zyv114, zyv114, zyv114, zyv114, zyv114, zyv114, zyv114, zyv15, zyv114, zyv114, zyv114, zyv114, zyv15, zyv15, zyv15, zyv15, zyv114, zyv114, zyv114])
noncomputable def zyr771 : List zC := [zyc60, zyc60, zyc60, zyc69, zyc10, zyc10, zyc10, zyc12, zyc70, zyc8, zyc8, zyc70, zyc8, zyc8, zyc844, zyc52]
noncomputable def zyh978 : zH := (126, [zyr9, zyr10, zyr11, zyr12, zyr13, zyr771, zyr6, zyr7], zym9)
noncomputable def zyc845 : zC := .inr (8, [zyv114, zyv15, zyv15, zyv15, zyv114, zyv114, zyv114, zyv114, zyv15, zyv114, zyv15, zyv15, zyv127, zyv17, zyv314, zyv337, zyv124, zyv114, zyv114, zyv114, zyv15, zyv36, zyv129, zyv114, zyv15, zyv114, zyv114, zyv15, zyv15, zyv114, zyv114, zyv114, zyv114, zyv114, zyv114, zyv114, zyv114, zyv114, zyv114, zyv15, zyv114, zyv114, zyv114, zyv114, zyv15, zyv15, zyv15, zyv15, zyv114, zyv114, zyv114])
noncomputable def zyr772 : List zC := [zyc60, zyc60, zyc60, zyc69, zyc10, zyc10, zyc10, zyc12, zyc70, zyc8, zyc8, zyc70, zyc8, zyc8, zyc845, zyc52]
noncomputable def zyh979 : zH := (126, [zyr9, zyr10, zyr11, zyr12, zyr13, zyr772, zyr6, zyr7], 0)
noncomputable def zyh980 : zH := (126, [zyr9, zyr10, zyr11, zyr12, zyr13, zyr772, zyr6, zyr7], zym9)
noncomputable def zyc846 : zC := .inr (8, [zyv114, zyv15, zyv15, zyv15, zyv114, zyv114, zyv114, zyv114, zyv15, zyv114, zyv15, zyv15, zyv127, zyv17, zyv314, zyv338, zyv239, zyv114, zyv114, zyv114, zyv15, zyv36, zyv129, zyv114, zyv15, zyv114, zyv114, zyv15, zyv15, zyv114, zyv114, zyv114, zyv114, zyv114, zyv114, zyv114, zyv114, zyv114, zyv114, zyv15, zyv114, zyv114, zyv114, zyv114, zyv15, zyv15, zyv15, zyv15, zyv114, zyv114, zyv114])
noncomputable def zyr773 : List zC := [zyc60, zyc60, zyc60, zyc69, zyc10, zyc10, zyc10, zyc12, zyc70, zyc8, zyc8, zyc70, zyc8, zyc8, zyc846, zyc52]
noncomputable def zyh981 : zH := (126, [zyr9, zyr10, zyr11, zyr12, zyr13, zyr773, zyr6, zyr7], zym9)
noncomputable def zyc847 : zC := .inr (8, [zyv114, zyv15, zyv15, zyv15, zyv114, zyv114, zyv114, zyv114, zyv15, zyv114, zyv15, zyv15, zyv127, zyv17, zyv314, zyv338, zyv124, zyv114, zyv114, zyv114, zyv15, zyv36, zyv129, zyv114, zyv15, zyv114, zyv114, zyv15, zyv15, zyv114, zyv114, zyv114, zyv114, zyv114, zyv114, zyv114, zyv114, zyv114, zyv114, zyv15, zyv114, zyv114, zyv114, zyv114, zyv15, zyv15, zyv15, zyv15, zyv114, zyv114, zyv114])
noncomputable def zyr774 : List zC := [zyc60, zyc60, zyc60, zyc69, zyc10, zyc10, zyc10, zyc12, zyc70, zyc8, zyc8, zyc70, zyc8, zyc8, zyc847, zyc52]
noncomputable def zyh982 : zH := (126, [zyr9, zyr10, zyr11, zyr12, zyr13, zyr774, zyr6, zyr7], 0)
noncomputable def zyh983 : zH := (126, [zyr9, zyr10, zyr11, zyr12, zyr13, zyr774, zyr6, zyr7], zym9)
noncomputable def zyc848 : zC := .inr (8, [zyv114, zyv15, zyv15, zyv15, zyv114, zyv114, zyv114, zyv114, zyv15, zyv114, zyv15, zyv15, zyv127, zyv17, zyv314, zyv339, zyv239, zyv114, zyv114, zyv114, zyv15, zyv36, zyv129, zyv114, zyv15, zyv114, zyv114, zyv15, zyv15, zyv114, zyv114, zyv114, zyv114, zyv114, zyv114, zyv114, zyv114, zyv114, zyv114, zyv15, zyv114, zyv114, zyv114, zyv114, zyv15, zyv15, zyv15, zyv15, zyv114, zyv114, zyv114])
noncomputable def zyr775 : List zC := [zyc60, zyc60, zyc60, zyc69, zyc10, zyc10, zyc10, zyc12, zyc70, zyc8, zyc8, zyc70, zyc8, zyc8, zyc848, zyc52]
noncomputable def zyh984 : zH := (126, [zyr9, zyr10, zyr11, zyr12, zyr13, zyr775, zyr6, zyr7], zym9)
noncomputable def zyc849 : zC := .inr (8, [zyv114, zyv15, zyv15, zyv15, zyv114, zyv114, zyv114, zyv114, zyv15, zyv114, zyv15, zyv15, zyv127, zyv17, zyv314, zyv339, zyv124, zyv114, zyv114, zyv114, zyv15, zyv36, zyv129, zyv114, zyv15, zyv114, zyv114, zyv15, zyv15, zyv114, zyv114, zyv114, zyv114, zyv114, zyv114, zyv114, zyv114, zyv114, zyv114, zyv15, zyv114, zyv114, zyv114, zyv114, zyv15, zyv15, zyv15, zyv15, zyv114, zyv114, zyv114])
noncomputable def zyr776 : List zC := [zyc60, zyc60, zyc60, zyc69, zyc10, zyc10, zyc10, zyc12, zyc70, zyc8, zyc8, zyc70, zyc8, zyc8, zyc849, zyc52]
noncomputable def zyh985 : zH := (126, [zyr9, zyr10, zyr11, zyr12, zyr13, zyr776, zyr6, zyr7], 0)
noncomputable def zyh986 : zH := (126, [zyr9, zyr10, zyr11, zyr12, zyr13, zyr776, zyr6, zyr7], zym9)
noncomputable def zyc850 : zC := .inr (8, [zyv114, zyv15, zyv15, zyv15, zyv114, zyv114, zyv114, zyv114, zyv15, zyv114, zyv15, zyv15, zyv127, zyv17, zyv314, zyv340, zyv239, zyv114, zyv114, zyv114, zyv15, zyv36, zyv129, zyv114, zyv15, zyv114, zyv114, zyv15, zyv15, zyv114, zyv114, zyv114, zyv114, zyv114, zyv114, zyv114, zyv114, zyv114, zyv114, zyv15, zyv114, zyv114, zyv114, zyv114, zyv15, zyv15, zyv15, zyv15, zyv114, zyv114, zyv114])
noncomputable def zyr777 : List zC := [zyc60, zyc60, zyc60, zyc69, zyc10, zyc10, zyc10, zyc12, zyc70, zyc8, zyc8, zyc70, zyc8, zyc8, zyc850, zyc52]
noncomputable def zyh987 : zH := (126, [zyr9, zyr10, zyr11, zyr12, zyr13, zyr777, zyr6, zyr7], zym9)
noncomputable def zyc851 : zC := .inr (8, [zyv114, zyv15, zyv15, zyv15, zyv114, zyv114, zyv114, zyv114, zyv15, zyv114, zyv15, zyv15, zyv127, zyv17, zyv314, zyv340, zyv124, zyv114, zyv114, zyv114, zyv15, zyv36, zyv129, zyv114, zyv15, zyv114, zyv114, zyv15, zyv15, zyv114, zyv114, zyv114, zyv114, zyv114, zyv114, zyv114, zyv114, zyv114, zyv114, zyv15, zyv114, zyv114, zyv114, zyv114, zyv15, zyv15, zyv15, zyv15, zyv114, zyv114, zyv114])
noncomputable def zyr778 : List zC := [zyc60, zyc60, zyc60, zyc69, zyc10, zyc10, zyc10, zyc12, zyc70, zyc8, zyc8, zyc70, zyc8, zyc8, zyc851, zyc52]
noncomputable def zyh988 : zH := (126, [zyr9, zyr10, zyr11, zyr12, zyr13, zyr778, zyr6, zyr7], 0)
noncomputable def zyh989 : zH := (126, [zyr9, zyr10, zyr11, zyr12, zyr13, zyr778, zyr6, zyr7], zym9)
noncomputable def zyc852 : zC := .inr (8, [zyv114, zyv15, zyv15, zyv15, zyv114, zyv114, zyv114, zyv114, zyv15, zyv114, zyv15, zyv15, zyv127, zyv17, zyv314, zyv341, zyv239, zyv114, zyv114, zyv114, zyv15, zyv36, zyv129, zyv114, zyv15, zyv114, zyv114, zyv15, zyv15, zyv114, zyv114, zyv114, zyv114, zyv114, zyv114, zyv114, zyv114, zyv114, zyv114, zyv15, zyv114, zyv114, zyv114, zyv114, zyv15, zyv15, zyv15, zyv15, zyv114, zyv114, zyv114])
noncomputable def zyr779 : List zC := [zyc60, zyc60, zyc60, zyc69, zyc10, zyc10, zyc10, zyc12, zyc70, zyc8, zyc8, zyc70, zyc8, zyc8, zyc852, zyc52]
noncomputable def zyh990 : zH := (126, [zyr9, zyr10, zyr11, zyr12, zyr13, zyr779, zyr6, zyr7], zym9)
noncomputable def zyc853 : zC := .inr (8, [zyv114, zyv15, zyv15, zyv15, zyv114, zyv114, zyv114, zyv114, zyv15, zyv114, zyv15, zyv15, zyv127, zyv17, zyv314, zyv341, zyv124, zyv114, zyv114, zyv114, zyv15, zyv36, zyv129, zyv114, zyv15, zyv114, zyv114, zyv15, zyv15, zyv114, zyv114, zyv114, zyv114, zyv114, zyv114, zyv114, zyv114, zyv114, zyv114, zyv15, zyv114, zyv114, zyv114, zyv114, zyv15, zyv15, zyv15, zyv15, zyv114, zyv114, zyv114])
noncomputable def zyr780 : List zC := [zyc60, zyc60, zyc60, zyc69, zyc10, zyc10, zyc10, zyc12, zyc70, zyc8, zyc8, zyc70, zyc8, zyc8, zyc853, zyc52]
noncomputable def zyh991 : zH := (126, [zyr9, zyr10, zyr11, zyr12, zyr13, zyr780, zyr6, zyr7], 0)
noncomputable def zyh992 : zH := (126, [zyr9, zyr10, zyr11, zyr12, zyr13, zyr780, zyr6, zyr7], zym9)
noncomputable def zyc854 : zC := .inr (8, [zyv114, zyv15, zyv15, zyv15, zyv114, zyv114, zyv114, zyv114, zyv15, zyv114, zyv15, zyv15, zyv127, zyv17, zyv314, zyv342, zyv239, zyv114, zyv114, zyv114, zyv15, zyv36, zyv129, zyv114, zyv15, zyv114, zyv114, zyv15, zyv15, zyv114, zyv114, zyv114, zyv114, zyv114, zyv114, zyv114, zyv114, zyv114, zyv114, zyv15, zyv114, zyv114, zyv114, zyv114, zyv15, zyv15, zyv15, zyv15, zyv114, zyv114, zyv114])
noncomputable def zyr781 : List zC := [zyc60, zyc60, zyc60, zyc69, zyc10, zyc10, zyc10, zyc12, zyc70, zyc8, zyc8, zyc70, zyc8, zyc8, zyc854, zyc52]
noncomputable def zyh993 : zH := (126, [zyr9, zyr10, zyr11, zyr12, zyr13, zyr781, zyr6, zyr7], zym9)
noncomputable def zyc855 : zC := .inr (8, [zyv114, zyv15, zyv15, zyv15, zyv114, zyv114, zyv114, zyv114, zyv15, zyv114, zyv15, zyv15, zyv127, zyv17, zyv314, zyv342, zyv124, zyv114, zyv114, zyv114, zyv15, zyv36, zyv129, zyv114, zyv15, zyv114, zyv114, zyv15, zyv15, zyv114, zyv114, zyv114, zyv114, zyv114, zyv114, zyv114, zyv114, zyv114, zyv114, zyv15, zyv114, zyv114, zyv114, zyv114, zyv15, zyv15, zyv15, zyv15, zyv114, zyv114, zyv114])
noncomputable def zyr782 : List zC := [zyc60, zyc60, zyc60, zyc69, zyc10, zyc10, zyc10, zyc12, zyc70, zyc8, zyc8, zyc70, zyc8, zyc8, zyc855, zyc52]
noncomputable def zyh994 : zH := (126, [zyr9, zyr10, zyr11, zyr12, zyr13, zyr782, zyr6, zyr7], 0)
noncomputable def zyh995 : zH := (126, [zyr9, zyr10, zyr11, zyr12, zyr13, zyr782, zyr6, zyr7], zym9)
noncomputable def zyc856 : zC := .inr (8, [zyv114, zyv15, zyv15, zyv15, zyv114, zyv114, zyv114, zyv114, zyv15, zyv114, zyv15, zyv15, zyv127, zyv17, zyv314, zyv343, zyv239, zyv114, zyv114, zyv114, zyv15, zyv36, zyv129, zyv114, zyv15, zyv114, zyv114, zyv15, zyv15, zyv114, zyv114, zyv114, zyv114, zyv114, zyv114, zyv114, zyv114, zyv114, zyv114, zyv15, zyv114, zyv114, zyv114, zyv114, zyv15, zyv15, zyv15, zyv15, zyv114, zyv114, zyv114])
noncomputable def zyr783 : List zC := [zyc60, zyc60, zyc60, zyc69, zyc10, zyc10, zyc10, zyc12, zyc70, zyc8, zyc8, zyc70, zyc8, zyc8, zyc856, zyc52]
noncomputable def zyh996 : zH := (126, [zyr9, zyr10, zyr11, zyr12, zyr13, zyr783, zyr6, zyr7], zym9)
noncomputable def zyc857 : zC := .inr (8, [zyv114, zyv15, zyv15, zyv15, zyv114, zyv114, zyv114, zyv114, zyv15, zyv114, zyv15, zyv15, zyv127, zyv17, zyv314, zyv343, zyv124, zyv114, zyv114, zyv114, zyv15, zyv36, zyv129, zyv114, zyv15, zyv114, zyv114, zyv15, zyv15, zyv114, zyv114, zyv114, zyv114, zyv114, zyv114, zyv114, zyv114, zyv114, zyv114, zyv15, zyv114, zyv114, zyv114, zyv114, zyv15, zyv15, zyv15, zyv15, zyv114, zyv114, zyv114])
noncomputable def zyr784 : List zC := [zyc60, zyc60, zyc60, zyc69, zyc10, zyc10, zyc10, zyc12, zyc70, zyc8, zyc8, zyc70, zyc8, zyc8, zyc857, zyc52]
noncomputable def zyh997 : zH := (126, [zyr9, zyr10, zyr11, zyr12, zyr13, zyr784, zyr6, zyr7], 0)
noncomputable def zyh998 : zH := (126, [zyr9, zyr10, zyr11, zyr12, zyr13, zyr784, zyr6, zyr7], zym9)
noncomputable def zyc858 : zC := .inr (8, [zyv114, zyv15, zyv15, zyv15, zyv114, zyv114, zyv114, zyv114, zyv15, zyv114, zyv15, zyv15, zyv127, zyv17, zyv314, zyv344, zyv239, zyv114, zyv114, zyv114, zyv15, zyv36, zyv129, zyv114, zyv15, zyv114, zyv114, zyv15, zyv15, zyv114, zyv114, zyv114, zyv114, zyv114, zyv114, zyv114, zyv114, zyv114, zyv114, zyv15, zyv114, zyv114, zyv114, zyv114, zyv15, zyv15, zyv15, zyv15, zyv114, zyv114, zyv114])
noncomputable def zyr785 : List zC := [zyc60, zyc60, zyc60, zyc69, zyc10, zyc10, zyc10, zyc12, zyc70, zyc8, zyc8, zyc70, zyc8, zyc8, zyc858, zyc52]
noncomputable def zyh999 : zH := (126, [zyr9, zyr10, zyr11, zyr12, zyr13, zyr785, zyr6, zyr7], zym9)
noncomputable def zyc859 : zC := .inr (8, [zyv114, zyv15, zyv15, zyv15, zyv114, zyv114, zyv114, zyv114, zyv15, zyv114, zyv15, zyv15, zyv127, zyv17, zyv314, zyv344, zyv124, zyv114, zyv114, zyv114, zyv15, zyv36, zyv129, zyv114, zyv15, zyv114, zyv114, zyv15, zyv15, zyv114, zyv114, zyv114, zyv114, zyv114, zyv114, zyv114, zyv114, zyv114, zyv114, zyv15, zyv114, zyv114, zyv114, zyv114, zyv15, zyv15, zyv15, zyv15, zyv114, zyv114, zyv114])
noncomputable def zyr786 : List zC := [zyc60, zyc60, zyc60, zyc69, zyc10, zyc10, zyc10, zyc12, zyc70, zyc8, zyc8, zyc70, zyc8, zyc8, zyc859, zyc52]
noncomputable def zyh1000 : zH := (126, [zyr9, zyr10, zyr11, zyr12, zyr13, zyr786, zyr6, zyr7], 0)
noncomputable def zyh1001 : zH := (126, [zyr9, zyr10, zyr11, zyr12, zyr13, zyr786, zyr6, zyr7], zym9)
noncomputable def zyc860 : zC := .inr (8, [zyv114, zyv15, zyv15, zyv15, zyv114, zyv114, zyv114, zyv114, zyv15, zyv114, zyv15, zyv15, zyv127, zyv17, zyv314, zyv345, zyv239, zyv114, zyv114, zyv114, zyv15, zyv36, zyv129, zyv114, zyv15, zyv114, zyv114, zyv15, zyv15, zyv114, zyv114, zyv114, zyv114, zyv114, zyv114, zyv114, zyv114, zyv114, zyv114, zyv15, zyv114, zyv114, zyv114, zyv114, zyv15, zyv15, zyv15, zyv15, zyv114, zyv114, zyv114])
noncomputable def zyr787 : List zC := [zyc60, zyc60, zyc60, zyc69, zyc10, zyc10, zyc10, zyc12, zyc70, zyc8, zyc8, zyc70, zyc8, zyc8, zyc860, zyc52]
noncomputable def zyh1002 : zH := (126, [zyr9, zyr10, zyr11, zyr12, zyr13, zyr787, zyr6, zyr7], zym9)
noncomputable def zyc861 : zC := .inr (8, [zyv114, zyv15, zyv15, zyv15, zyv114, zyv114, zyv114, zyv114, zyv15, zyv114, zyv15, zyv15, zyv127, zyv17, zyv314, zyv345, zyv124, zyv114, zyv114, zyv114, zyv15, zyv36, zyv129, zyv114, zyv15, zyv114, zyv114, zyv15, zyv15, zyv114, zyv114, zyv114, zyv114, zyv114, zyv114, zyv114, zyv114, zyv114, zyv114, zyv15, zyv114, zyv114, zyv114, zyv114, zyv15, zyv15, zyv15, zyv15, zyv114, zyv114, zyv114])
noncomputable def zyr788 : List zC := [zyc60, zyc60, zyc60, zyc69, zyc10, zyc10, zyc10, zyc12, zyc70, zyc8, zyc8, zyc70, zyc8, zyc8, zyc861, zyc52]
noncomputable def zyh1003 : zH := (126, [zyr9, zyr10, zyr11, zyr12, zyr13, zyr788, zyr6, zyr7], 0)
noncomputable def zyh1004 : zH := (126, [zyr9, zyr10, zyr11, zyr12, zyr13, zyr788, zyr6, zyr7], zym9)
noncomputable def zyc862 : zC := .inr (8, [zyv114, zyv15, zyv15, zyv15, zyv114, zyv114, zyv114, zyv114, zyv15, zyv114, zyv15, zyv15, zyv127, zyv17, zyv314, zyv346, zyv239, zyv114, zyv114, zyv114, zyv15, zyv36, zyv129, zyv114, zyv15, zyv114, zyv114, zyv15, zyv15, zyv114, zyv114, zyv114, zyv114, zyv114, zyv114, zyv114, zyv114, zyv114, zyv114, zyv15, zyv114, zyv114, zyv114, zyv114, zyv15, zyv15, zyv15, zyv15, zyv114, zyv114, zyv114])
noncomputable def zyr789 : List zC := [zyc60, zyc60, zyc60, zyc69, zyc10, zyc10, zyc10, zyc12, zyc70, zyc8, zyc8, zyc70, zyc8, zyc8, zyc862, zyc52]
noncomputable def zyh1005 : zH := (126, [zyr9, zyr10, zyr11, zyr12, zyr13, zyr789, zyr6, zyr7], zym9)
noncomputable def zyc863 : zC := .inr (8, [zyv114, zyv15, zyv15, zyv15, zyv114, zyv114, zyv114, zyv114, zyv15, zyv114, zyv15, zyv15, zyv127, zyv17, zyv314, zyv346, zyv124, zyv114, zyv114, zyv114, zyv15, zyv36, zyv129, zyv114, zyv15, zyv114, zyv114, zyv15, zyv15, zyv114, zyv114, zyv114, zyv114, zyv114, zyv114, zyv114, zyv114, zyv114, zyv114, zyv15, zyv114, zyv114, zyv114, zyv114, zyv15, zyv15, zyv15, zyv15, zyv114, zyv114, zyv114])
noncomputable def zyr790 : List zC := [zyc60, zyc60, zyc60, zyc69, zyc10, zyc10, zyc10, zyc12, zyc70, zyc8, zyc8, zyc70, zyc8, zyc8, zyc863, zyc52]
noncomputable def zyh1006 : zH := (126, [zyr9, zyr10, zyr11, zyr12, zyr13, zyr790, zyr6, zyr7], 0)
noncomputable def zyh1007 : zH := (126, [zyr9, zyr10, zyr11, zyr12, zyr13, zyr790, zyr6, zyr7], zym9)
noncomputable def zyc864 : zC := .inr (8, [zyv114, zyv15, zyv15, zyv15, zyv114, zyv114, zyv114, zyv114, zyv15, zyv114, zyv15, zyv15, zyv127, zyv17, zyv314, zyv347, zyv239, zyv114, zyv114, zyv114, zyv15, zyv36, zyv129, zyv114, zyv15, zyv114, zyv114, zyv15, zyv15, zyv114, zyv114, zyv114, zyv114, zyv114, zyv114, zyv114, zyv114, zyv114, zyv114, zyv15, zyv114, zyv114, zyv114, zyv114, zyv15, zyv15, zyv15, zyv15, zyv114, zyv114, zyv114])
noncomputable def zyr791 : List zC := [zyc60, zyc60, zyc60, zyc69, zyc10, zyc10, zyc10, zyc12, zyc70, zyc8, zyc8, zyc70, zyc8, zyc8, zyc864, zyc52]
noncomputable def zyh1008 : zH := (126, [zyr9, zyr10, zyr11, zyr12, zyr13, zyr791, zyr6, zyr7], zym9)
noncomputable def zyc865 : zC := .inr (8, [zyv114, zyv15, zyv15, zyv15, zyv114, zyv114, zyv114, zyv114, zyv15, zyv114, zyv15, zyv15, zyv127, zyv17, zyv314, zyv347, zyv124, zyv114, zyv114, zyv114, zyv15, zyv36, zyv129, zyv114, zyv15, zyv114, zyv114, zyv15, zyv15, zyv114, zyv114, zyv114, zyv114, zyv114, zyv114, zyv114, zyv114, zyv114, zyv114, zyv15, zyv114, zyv114, zyv114, zyv114, zyv15, zyv15, zyv15, zyv15, zyv114, zyv114, zyv114])
noncomputable def zyr792 : List zC := [zyc60, zyc60, zyc60, zyc69, zyc10, zyc10, zyc10, zyc12, zyc70, zyc8, zyc8, zyc70, zyc8, zyc8, zyc865, zyc52]
noncomputable def zyh1009 : zH := (126, [zyr9, zyr10, zyr11, zyr12, zyr13, zyr792, zyr6, zyr7], 0)
noncomputable def zyh1010 : zH := (126, [zyr9, zyr10, zyr11, zyr12, zyr13, zyr792, zyr6, zyr7], zym9)
noncomputable def zyc866 : zC := .inr (8, [zyv114, zyv15, zyv15, zyv15, zyv114, zyv114, zyv114, zyv114, zyv15, zyv114, zyv15, zyv15, zyv127, zyv17, zyv314, zyv348, zyv239, zyv114, zyv114, zyv114, zyv15, zyv36, zyv129, zyv114, zyv15, zyv114, zyv114, zyv15, zyv15, zyv114, zyv114, zyv114, zyv114, zyv114, zyv114, zyv114, zyv114, zyv114, zyv114, zyv15, zyv114, zyv114, zyv114, zyv114, zyv15, zyv15, zyv15, zyv15, zyv114, zyv114, zyv114])
noncomputable def zyr793 : List zC := [zyc60, zyc60, zyc60, zyc69, zyc10, zyc10, zyc10, zyc12, zyc70, zyc8, zyc8, zyc70, zyc8, zyc8, zyc866, zyc52]
noncomputable def zyh1011 : zH := (126, [zyr9, zyr10, zyr11, zyr12, zyr13, zyr793, zyr6, zyr7], zym9)
noncomputable def zyc867 : zC := .inr (8, [zyv114, zyv15, zyv15, zyv15, zyv114, zyv114, zyv114, zyv114, zyv15, zyv114, zyv15, zyv15, zyv127, zyv17, zyv314, zyv348, zyv124, zyv114, zyv114, zyv114, zyv15, zyv36, zyv129, zyv114, zyv15, zyv114, zyv114, zyv15, zyv15, zyv114, zyv114, zyv114, zyv114, zyv114, zyv114, zyv114, zyv114, zyv114, zyv114, zyv15, zyv114, zyv114, zyv114, zyv114, zyv15, zyv15, zyv15, zyv15, zyv114, zyv114, zyv114])
noncomputable def zyr794 : List zC := [zyc60, zyc60, zyc60, zyc69, zyc10, zyc10, zyc10, zyc12, zyc70, zyc8, zyc8, zyc70, zyc8, zyc8, zyc867, zyc52]
noncomputable def zyh1012 : zH := (126, [zyr9, zyr10, zyr11, zyr12, zyr13, zyr794, zyr6, zyr7], 0)
noncomputable def zyh1013 : zH := (126, [zyr9, zyr10, zyr11, zyr12, zyr13, zyr794, zyr6, zyr7], zym9)
noncomputable def zyc868 : zC := .inr (8, [zyv114, zyv15, zyv15, zyv15, zyv114, zyv114, zyv114, zyv114, zyv15, zyv114, zyv15, zyv15, zyv127, zyv17, zyv314, zyv349, zyv239, zyv114, zyv114, zyv114, zyv15, zyv36, zyv129, zyv114, zyv15, zyv114, zyv114, zyv15, zyv15, zyv114, zyv114, zyv114, zyv114, zyv114, zyv114, zyv114, zyv114, zyv114, zyv114, zyv15, zyv114, zyv114, zyv114, zyv114, zyv15, zyv15, zyv15, zyv15, zyv114, zyv114, zyv114])
noncomputable def zyr795 : List zC := [zyc60, zyc60, zyc60, zyc69, zyc10, zyc10, zyc10, zyc12, zyc70, zyc8, zyc8, zyc70, zyc8, zyc8, zyc868, zyc52]
noncomputable def zyh1014 : zH := (126, [zyr9, zyr10, zyr11, zyr12, zyr13, zyr795, zyr6, zyr7], zym9)
noncomputable def zyc869 : zC := .inr (8, [zyv114, zyv15, zyv15, zyv15, zyv114, zyv114, zyv114, zyv114, zyv15, zyv114, zyv15, zyv15, zyv127, zyv17, zyv314, zyv349, zyv124, zyv114, zyv114, zyv114, zyv15, zyv36, zyv129, zyv114, zyv15, zyv114, zyv114, zyv15, zyv15, zyv114, zyv114, zyv114, zyv114, zyv114, zyv114, zyv114, zyv114, zyv114, zyv114, zyv15, zyv114, zyv114, zyv114, zyv114, zyv15, zyv15, zyv15, zyv15, zyv114, zyv114, zyv114])
noncomputable def zyr796 : List zC := [zyc60, zyc60, zyc60, zyc69, zyc10, zyc10, zyc10, zyc12, zyc70, zyc8, zyc8, zyc70, zyc8, zyc8, zyc869, zyc52]
noncomputable def zyh1015 : zH := (126, [zyr9, zyr10, zyr11, zyr12, zyr13, zyr796, zyr6, zyr7], 0)
noncomputable def zyh1016 : zH := (126, [zyr9, zyr10, zyr11, zyr12, zyr13, zyr796, zyr6, zyr7], zym9)
noncomputable def zyc870 : zC := .inr (8, [zyv114, zyv15, zyv15, zyv15, zyv114, zyv114, zyv114, zyv114, zyv15, zyv114, zyv15, zyv15, zyv127, zyv17, zyv314, zyv350, zyv239, zyv114, zyv114, zyv114, zyv15, zyv36, zyv129, zyv114, zyv15, zyv114, zyv114, zyv15, zyv15, zyv114, zyv114, zyv114, zyv114, zyv114, zyv114, zyv114, zyv114, zyv114, zyv114, zyv15, zyv114, zyv114, zyv114, zyv114, zyv15, zyv15, zyv15, zyv15, zyv114, zyv114, zyv114])
noncomputable def zyr797 : List zC := [zyc60, zyc60, zyc60, zyc69, zyc10, zyc10, zyc10, zyc12, zyc70, zyc8, zyc8, zyc70, zyc8, zyc8, zyc870, zyc52]
noncomputable def zyh1017 : zH := (126, [zyr9, zyr10, zyr11, zyr12, zyr13, zyr797, zyr6, zyr7], zym9)
noncomputable def zyc871 : zC := .inr (8, [zyv114, zyv15, zyv15, zyv15, zyv114, zyv114, zyv114, zyv114, zyv15, zyv114, zyv15, zyv15, zyv127, zyv17, zyv314, zyv350, zyv124, zyv114, zyv114, zyv114, zyv15, zyv36, zyv129, zyv114, zyv15, zyv114, zyv114, zyv15, zyv15, zyv114, zyv114, zyv114, zyv114, zyv114, zyv114, zyv114, zyv114, zyv114, zyv114, zyv15, zyv114, zyv114, zyv114, zyv114, zyv15, zyv15, zyv15, zyv15, zyv114, zyv114, zyv114])
noncomputable def zyr798 : List zC := [zyc60, zyc60, zyc60, zyc69, zyc10, zyc10, zyc10, zyc12, zyc70, zyc8, zyc8, zyc70, zyc8, zyc8, zyc871, zyc52]
noncomputable def zyh1018 : zH := (126, [zyr9, zyr10, zyr11, zyr12, zyr13, zyr798, zyr6, zyr7], 0)
noncomputable def zyh1019 : zH := (126, [zyr9, zyr10, zyr11, zyr12, zyr13, zyr798, zyr6, zyr7], zym9)
noncomputable def zyc872 : zC := .inr (8, [zyv114, zyv15, zyv15, zyv15, zyv114, zyv114, zyv114, zyv114, zyv15, zyv114, zyv15, zyv15, zyv127, zyv17, zyv314, zyv351, zyv239, zyv114, zyv114, zyv114, zyv15, zyv36, zyv129, zyv114, zyv15, zyv114, zyv114, zyv15, zyv15, zyv114, zyv114, zyv114, zyv114, zyv114, zyv114, zyv114, zyv114, zyv114, zyv114, zyv15, zyv114, zyv114, zyv114, zyv114, zyv15, zyv15, zyv15, zyv15, zyv114, zyv114, zyv114])
noncomputable def zyr799 : List zC := [zyc60, zyc60, zyc60, zyc69, zyc10, zyc10, zyc10, zyc12, zyc70, zyc8, zyc8, zyc70, zyc8, zyc8, zyc872, zyc52]
noncomputable def zyh1020 : zH := (126, [zyr9, zyr10, zyr11, zyr12, zyr13, zyr799, zyr6, zyr7], zym9)
noncomputable def zyc873 : zC := .inr (8, [zyv114, zyv15, zyv15, zyv15, zyv114, zyv114, zyv114, zyv114, zyv15, zyv114, zyv15, zyv15, zyv127, zyv17, zyv314, zyv351, zyv124, zyv114, zyv114, zyv114, zyv15, zyv36, zyv129, zyv114, zyv15, zyv114, zyv114, zyv15, zyv15, zyv114, zyv114, zyv114, zyv114, zyv114, zyv114, zyv114, zyv114, zyv114, zyv114, zyv15, zyv114, zyv114, zyv114, zyv114, zyv15, zyv15, zyv15, zyv15, zyv114, zyv114, zyv114])
noncomputable def zyr800 : List zC := [zyc60, zyc60, zyc60, zyc69, zyc10, zyc10, zyc10, zyc12, zyc70, zyc8, zyc8, zyc70, zyc8, zyc8, zyc873, zyc52]
noncomputable def zyh1021 : zH := (126, [zyr9, zyr10, zyr11, zyr12, zyr13, zyr800, zyr6, zyr7], 0)
noncomputable def zyh1022 : zH := (126, [zyr9, zyr10, zyr11, zyr12, zyr13, zyr800, zyr6, zyr7], zym9)
noncomputable def zyc874 : zC := .inr (8, [zyv114, zyv15, zyv15, zyv15, zyv114, zyv114, zyv114, zyv114, zyv15, zyv114, zyv15, zyv15, zyv127, zyv17, zyv314, zyv352, zyv239, zyv114, zyv114, zyv114, zyv15, zyv36, zyv129, zyv114, zyv15, zyv114, zyv114, zyv15, zyv15, zyv114, zyv114, zyv114, zyv114, zyv114, zyv114, zyv114, zyv114, zyv114, zyv114, zyv15, zyv114, zyv114, zyv114, zyv114, zyv15, zyv15, zyv15, zyv15, zyv114, zyv114, zyv114])
noncomputable def zyr801 : List zC := [zyc60, zyc60, zyc60, zyc69, zyc10, zyc10, zyc10, zyc12, zyc70, zyc8, zyc8, zyc70, zyc8, zyc8, zyc874, zyc52]
noncomputable def zyh1023 : zH := (126, [zyr9, zyr10, zyr11, zyr12, zyr13, zyr801, zyr6, zyr7], zym9)
noncomputable def zyc875 : zC := .inr (8, [zyv114, zyv15, zyv15, zyv15, zyv114, zyv114, zyv114, zyv114, zyv15, zyv114, zyv15, zyv15, zyv127, zyv17, zyv314, zyv352, zyv124, zyv114, zyv114, zyv114, zyv15, zyv36, zyv129, zyv114, zyv15, zyv114, zyv114, zyv15, zyv15, zyv114, zyv114, zyv114, zyv114, zyv114, zyv114, zyv114, zyv114, zyv114, zyv114, zyv15, zyv114, zyv114, zyv114, zyv114, zyv15, zyv15, zyv15, zyv15, zyv114, zyv114, zyv114])
noncomputable def zyr802 : List zC := [zyc60, zyc60, zyc60, zyc69, zyc10, zyc10, zyc10, zyc12, zyc70, zyc8, zyc8, zyc70, zyc8, zyc8, zyc875, zyc52]
noncomputable def zyh1024 : zH := (126, [zyr9, zyr10, zyr11, zyr12, zyr13, zyr802, zyr6, zyr7], 0)
noncomputable def zyh1025 : zH := (126, [zyr9, zyr10, zyr11, zyr12, zyr13, zyr802, zyr6, zyr7], zym9)
noncomputable def zyc876 : zC := .inr (8, [zyv114, zyv15, zyv15, zyv15, zyv114, zyv114, zyv114, zyv114, zyv15, zyv114, zyv15, zyv15, zyv127, zyv17, zyv314, zyv353, zyv239, zyv114, zyv114, zyv114, zyv15, zyv36, zyv129, zyv114, zyv15, zyv114, zyv114, zyv15, zyv15, zyv114, zyv114, zyv114, zyv114, zyv114, zyv114, zyv114, zyv114, zyv114, zyv114, zyv15, zyv114, zyv114, zyv114, zyv114, zyv15, zyv15, zyv15, zyv15, zyv114, zyv114, zyv114])
noncomputable def zyr803 : List zC := [zyc60, zyc60, zyc60, zyc69, zyc10, zyc10, zyc10, zyc12, zyc70, zyc8, zyc8, zyc70, zyc8, zyc8, zyc876, zyc52]
noncomputable def zyh1026 : zH := (126, [zyr9, zyr10, zyr11, zyr12, zyr13, zyr803, zyr6, zyr7], zym9)
noncomputable def zyc877 : zC := .inr (8, [zyv114, zyv15, zyv15, zyv15, zyv114, zyv114, zyv114, zyv114, zyv15, zyv114, zyv15, zyv15, zyv127, zyv17, zyv314, zyv353, zyv124, zyv114, zyv114, zyv114, zyv15, zyv36, zyv129, zyv114, zyv15, zyv114, zyv114, zyv15, zyv15, zyv114, zyv114, zyv114, zyv114, zyv114, zyv114, zyv114, zyv114, zyv114, zyv114, zyv15, zyv114, zyv114, zyv114, zyv114, zyv15, zyv15, zyv15, zyv15, zyv114, zyv114, zyv114])
noncomputable def zyr804 : List zC := [zyc60, zyc60, zyc60, zyc69, zyc10, zyc10, zyc10, zyc12, zyc70, zyc8, zyc8, zyc70, zyc8, zyc8, zyc877, zyc52]
noncomputable def zyh1027 : zH := (126, [zyr9, zyr10, zyr11, zyr12, zyr13, zyr804, zyr6, zyr7], 0)
noncomputable def zyh1028 : zH := (126, [zyr9, zyr10, zyr11, zyr12, zyr13, zyr804, zyr6, zyr7], zym9)
noncomputable def zyc878 : zC := .inr (8, [zyv114, zyv15, zyv15, zyv15, zyv114, zyv114, zyv114, zyv114, zyv15, zyv114, zyv15, zyv15, zyv127, zyv17, zyv314, zyv354, zyv239, zyv114, zyv114, zyv114, zyv15, zyv36, zyv129, zyv114, zyv15, zyv114, zyv114, zyv15, zyv15, zyv114, zyv114, zyv114, zyv114, zyv114, zyv114, zyv114, zyv114, zyv114, zyv114, zyv15, zyv114, zyv114, zyv114, zyv114, zyv15, zyv15, zyv15, zyv15, zyv114, zyv114, zyv114])
noncomputable def zyr805 : List zC := [zyc60, zyc60, zyc60, zyc69, zyc10, zyc10, zyc10, zyc12, zyc70, zyc8, zyc8, zyc70, zyc8, zyc8, zyc878, zyc52]
noncomputable def zyh1029 : zH := (126, [zyr9, zyr10, zyr11, zyr12, zyr13, zyr805, zyr6, zyr7], zym9)
noncomputable def zyc879 : zC := .inr (8, [zyv114, zyv15, zyv15, zyv15, zyv114, zyv114, zyv114, zyv114, zyv15, zyv114, zyv15, zyv15, zyv127, zyv17, zyv314, zyv354, zyv124, zyv114, zyv114, zyv114, zyv15, zyv36, zyv129, zyv114, zyv15, zyv114, zyv114, zyv15, zyv15, zyv114, zyv114, zyv114, zyv114, zyv114, zyv114, zyv114, zyv114, zyv114, zyv114, zyv15, zyv114, zyv114, zyv114, zyv114, zyv15, zyv15, zyv15, zyv15, zyv114, zyv114, zyv114])
noncomputable def zyr806 : List zC := [zyc60, zyc60, zyc60, zyc69, zyc10, zyc10, zyc10, zyc12, zyc70, zyc8, zyc8, zyc70, zyc8, zyc8, zyc879, zyc52]
noncomputable def zyh1030 : zH := (126, [zyr9, zyr10, zyr11, zyr12, zyr13, zyr806, zyr6, zyr7], 0)
noncomputable def zyh1031 : zH := (126, [zyr9, zyr10, zyr11, zyr12, zyr13, zyr806, zyr6, zyr7], zym9)
noncomputable def zyc880 : zC := .inr (8, [zyv114, zyv15, zyv15, zyv15, zyv114, zyv114, zyv114, zyv114, zyv15, zyv114, zyv15, zyv15, zyv127, zyv17, zyv314, zyv355, zyv239, zyv114, zyv114, zyv114, zyv15, zyv36, zyv129, zyv114, zyv15, zyv114, zyv114, zyv15, zyv15, zyv114, zyv114, zyv114, zyv114, zyv114, zyv114, zyv114, zyv114, zyv114, zyv114, zyv15, zyv114, zyv114, zyv114, zyv114, zyv15, zyv15, zyv15, zyv15, zyv114, zyv114, zyv114])
noncomputable def zyr807 : List zC := [zyc60, zyc60, zyc60, zyc69, zyc10, zyc10, zyc10, zyc12, zyc70, zyc8, zyc8, zyc70, zyc8, zyc8, zyc880, zyc52]
noncomputable def zyh1032 : zH := (126, [zyr9, zyr10, zyr11, zyr12, zyr13, zyr807, zyr6, zyr7], zym9)
noncomputable def zyc881 : zC := .inr (8, [zyv114, zyv15, zyv15, zyv15, zyv114, zyv114, zyv114, zyv114, zyv15, zyv114, zyv15, zyv15, zyv127, zyv17, zyv314, zyv355, zyv124, zyv114, zyv114, zyv114, zyv15, zyv36, zyv129, zyv114, zyv15, zyv114, zyv114, zyv15, zyv15, zyv114, zyv114, zyv114, zyv114, zyv114, zyv114, zyv114, zyv114, zyv114, zyv114, zyv15, zyv114, zyv114, zyv114, zyv114, zyv15, zyv15, zyv15, zyv15, zyv114, zyv114, zyv114])
noncomputable def zyr808 : List zC := [zyc60, zyc60, zyc60, zyc69, zyc10, zyc10, zyc10, zyc12, zyc70, zyc8, zyc8, zyc70, zyc8, zyc8, zyc881, zyc52]
noncomputable def zyh1033 : zH := (126, [zyr9, zyr10, zyr11, zyr12, zyr13, zyr808, zyr6, zyr7], 0)
noncomputable def zyh1034 : zH := (126, [zyr9, zyr10, zyr11, zyr12, zyr13, zyr808, zyr6, zyr7], zym9)
noncomputable def zyc882 : zC := .inr (8, [zyv114, zyv15, zyv15, zyv15, zyv114, zyv114, zyv114, zyv114, zyv15, zyv114, zyv15, zyv15, zyv127, zyv17, zyv314, zyv356, zyv239, zyv114, zyv114, zyv114, zyv15, zyv36, zyv129, zyv114, zyv15, zyv114, zyv114, zyv15, zyv15, zyv114, zyv114, zyv114, zyv114, zyv114, zyv114, zyv114, zyv114, zyv114, zyv114, zyv15, zyv114, zyv114, zyv114, zyv114, zyv15, zyv15, zyv15, zyv15, zyv114, zyv114, zyv114])
noncomputable def zyr809 : List zC := [zyc60, zyc60, zyc60, zyc69, zyc10, zyc10, zyc10, zyc12, zyc70, zyc8, zyc8, zyc70, zyc8, zyc8, zyc882, zyc52]
noncomputable def zyh1035 : zH := (126, [zyr9, zyr10, zyr11, zyr12, zyr13, zyr809, zyr6, zyr7], zym9)
noncomputable def zyc883 : zC := .inr (8, [zyv114, zyv15, zyv15, zyv15, zyv114, zyv114, zyv114, zyv114, zyv15, zyv114, zyv15, zyv15, zyv127, zyv17, zyv314, zyv356, zyv124, zyv114, zyv114, zyv114, zyv15, zyv36, zyv129, zyv114, zyv15, zyv114, zyv114, zyv15, zyv15, zyv114, zyv114, zyv114, zyv114, zyv114, zyv114, zyv114, zyv114, zyv114, zyv114, zyv15, zyv114, zyv114, zyv114, zyv114, zyv15, zyv15, zyv15, zyv15, zyv114, zyv114, zyv114])
noncomputable def zyr810 : List zC := [zyc60, zyc60, zyc60, zyc69, zyc10, zyc10, zyc10, zyc12, zyc70, zyc8, zyc8, zyc70, zyc8, zyc8, zyc883, zyc52]
noncomputable def zyh1036 : zH := (126, [zyr9, zyr10, zyr11, zyr12, zyr13, zyr810, zyr6, zyr7], 0)
noncomputable def zyh1037 : zH := (126, [zyr9, zyr10, zyr11, zyr12, zyr13, zyr810, zyr6, zyr7], zym9)
noncomputable def zyc884 : zC := .inr (8, [zyv114, zyv15, zyv15, zyv15, zyv114, zyv114, zyv114, zyv114, zyv15, zyv114, zyv15, zyv15, zyv127, zyv17, zyv314, zyv314, zyv239, zyv114, zyv114, zyv114, zyv15, zyv36, zyv129, zyv114, zyv15, zyv114, zyv114, zyv15, zyv15, zyv114, zyv114, zyv114, zyv114, zyv114, zyv114, zyv114, zyv114, zyv114, zyv114, zyv15, zyv114, zyv114, zyv114, zyv114, zyv15, zyv15, zyv15, zyv15, zyv114, zyv114, zyv114])
noncomputable def zyr811 : List zC := [zyc60, zyc60, zyc60, zyc69, zyc10, zyc10, zyc10, zyc12, zyc70, zyc8, zyc8, zyc70, zyc8, zyc8, zyc884, zyc52]
noncomputable def zyh1038 : zH := (126, [zyr9, zyr10, zyr11, zyr12, zyr13, zyr811, zyr6, zyr7], zym9)
noncomputable def zyc885 : zC := .inr (8, [zyv114, zyv15, zyv15, zyv15, zyv114, zyv114, zyv114, zyv114, zyv15, zyv114, zyv15, zyv15, zyv127, zyv17, zyv314, zyv314, zyv124, zyv114, zyv114, zyv114, zyv15, zyv36, zyv129, zyv114, zyv15, zyv114, zyv114, zyv15, zyv15, zyv114, zyv114, zyv114, zyv114, zyv114, zyv114, zyv114, zyv114, zyv114, zyv114, zyv15, zyv114, zyv114, zyv114, zyv114, zyv15, zyv15, zyv15, zyv15, zyv114, zyv114, zyv114])
noncomputable def zyr812 : List zC := [zyc60, zyc60, zyc60, zyc69, zyc10, zyc10, zyc10, zyc12, zyc70, zyc8, zyc8, zyc70, zyc8, zyc8, zyc885, zyc52]
noncomputable def zyh1039 : zH := (126, [zyr9, zyr10, zyr11, zyr12, zyr13, zyr812, zyr6, zyr7], 0)
noncomputable def zyh1040 : zH := (126, [zyr9, zyr10, zyr11, zyr12, zyr13, zyr812, zyr6, zyr7], zym9)
noncomputable def zyc886 : zC := .inr (8, [zyv114, zyv15, zyv15, zyv15, zyv114, zyv114, zyv114, zyv114, zyv15, zyv114, zyv15, zyv15, zyv127, zyv17, zyv314, zyv356, zyv17, zyv114, zyv114, zyv114, zyv15, zyv36, zyv129, zyv114, zyv15, zyv114, zyv114, zyv15, zyv15, zyv114, zyv114, zyv114, zyv114, zyv114, zyv114, zyv114, zyv114, zyv114, zyv114, zyv15, zyv114, zyv114, zyv114, zyv114, zyv15, zyv15, zyv15, zyv15, zyv114, zyv114, zyv114])
noncomputable def zyr813 : List zC := [zyc60, zyc60, zyc60, zyc69, zyc10, zyc10, zyc10, zyc12, zyc70, zyc8, zyc8, zyc70, zyc8, zyc8, zyc886, zyc52]
noncomputable def zyh1041 : zH := (126, [zyr9, zyr10, zyr11, zyr12, zyr13, zyr813, zyr6, zyr7], zym9)
noncomputable def zyc887 : zC := .inr (8, [zyv114, zyv15, zyv15, zyv15, zyv114, zyv114, zyv114, zyv114, zyv15, zyv114, zyv15, zyv15, zyv127, zyv17, zyv314, zyv355, zyv17, zyv114, zyv114, zyv114, zyv15, zyv36, zyv129, zyv114, zyv15, zyv114, zyv114, zyv15, zyv15, zyv114, zyv114, zyv114, zyv114, zyv114, zyv114, zyv114, zyv114, zyv114, zyv114, zyv15, zyv114, zyv114, zyv114, zyv114, zyv15, zyv15, zyv15, zyv15, zyv114, zyv114, zyv114])
noncomputable def zyr814 : List zC := [zyc60, zyc60, zyc60, zyc69, zyc10, zyc10, zyc10, zyc12, zyc70, zyc8, zyc8, zyc70, zyc8, zyc8, zyc887, zyc52]
noncomputable def zyh1042 : zH := (126, [zyr9, zyr10, zyr11, zyr12, zyr13, zyr814, zyr6, zyr7], zym9)
noncomputable def zyc888 : zC := .inr (8, [zyv114, zyv15, zyv15, zyv15, zyv114, zyv114, zyv114, zyv114, zyv15, zyv114, zyv15, zyv15, zyv127, zyv17, zyv314, zyv354, zyv17, zyv114, zyv114, zyv114, zyv15, zyv36, zyv129, zyv114, zyv15, zyv114, zyv114, zyv15, zyv15, zyv114, zyv114, zyv114, zyv114, zyv114, zyv114, zyv114, zyv114, zyv114, zyv114, zyv15, zyv114, zyv114, zyv114, zyv114, zyv15, zyv15, zyv15, zyv15, zyv114, zyv114, zyv114])
noncomputable def zyr815 : List zC := [zyc60, zyc60, zyc60, zyc69, zyc10, zyc10, zyc10, zyc12, zyc70, zyc8, zyc8, zyc70, zyc8, zyc8, zyc888, zyc52]
noncomputable def zyh1043 : zH := (126, [zyr9, zyr10, zyr11, zyr12, zyr13, zyr815, zyr6, zyr7], zym9)
/-! X8_passes -/
noncomputable def zyx781a : List zAV := [zyv315, zyv316]
noncomputable def zyx781q : List (Option zAV × zH) := [(some (.inl ((.ofNat 0, .ofNat 0), none)), zyh923), (some (.inl ((.ofNat 1, .ofNat 1), none)), zyh924)]
noncomputable def zyx781d : zKw := (263, 2, 3, 420, zyx781a, zyh922, zyx781q)
noncomputable def zbzyx781e : Bool := zrunw zprog2 (zovW []) 100000 zcut0 3 420 kX8_passes (zkinL zyx781q) 0 (zargs 0 zyx781a, [], (zyh922.1, zyh922.2.1, 0), 0, 0)
/-! X8_passes -/
noncomputable def zyx782a : List zAV := [zyv315, zyv318]
noncomputable def zyx782q : List (Option zAV × zH) := [(some (.inl ((.ofNat 0, .ofNat 0), none)), zyh926), (some (.inl ((.ofNat 1, .ofNat 1), none)), zyh927)]
noncomputable def zyx782d : zKw := (263, 2, 3, 420, zyx782a, zyh925, zyx782q)
noncomputable def zbzyx782e : Bool := zrunw zprog2 (zovW []) 100000 zcut0 3 420 kX8_passes (zkinL zyx782q) 0 (zargs 0 zyx782a, [], (zyh925.1, zyh925.2.1, 0), 0, 0)
/-! X8_passes -/
noncomputable def zyx783a : List zAV := [zyv315, zyv318]
noncomputable def zyx783q : List (Option zAV × zH) := [(some (.inl ((.ofNat 0, .ofNat 0), none)), zyh929), (some (.inl ((.ofNat 1, .ofNat 1), none)), zyh930)]
noncomputable def zyx783d : zKw := (263, 2, 3, 420, zyx783a, zyh928, zyx783q)
noncomputable def zbzyx783e : Bool := zrunw zprog2 (zovW []) 100000 zcut0 3 420 kX8_passes (zkinL zyx783q) 0 (zargs 0 zyx783a, [], (zyh928.1, zyh928.2.1, 0), 0, 0)
/-! X8_passes -/
noncomputable def zyx784a : List zAV := [zyv315, zyv318]
noncomputable def zyx784q : List (Option zAV × zH) := [(some (.inl ((.ofNat 0, .ofNat 0), none)), zyh932), (some (.inl ((.ofNat 1, .ofNat 1), none)), zyh933)]
noncomputable def zyx784d : zKw := (263, 2, 3, 420, zyx784a, zyh931, zyx784q)
noncomputable def zbzyx784e : Bool := zrunw zprog2 (zovW []) 100000 zcut0 3 420 kX8_passes (zkinL zyx784q) 0 (zargs 0 zyx784a, [], (zyh931.1, zyh931.2.1, 0), 0, 0)
/-! X8_passes -/
noncomputable def zyx785a : List zAV := [zyv315, zyv318]
noncomputable def zyx785q : List (Option zAV × zH) := [(some (.inl ((.ofNat 0, .ofNat 0), none)), zyh935), (some (.inl ((.ofNat 1, .ofNat 1), none)), zyh936)]
noncomputable def zyx785d : zKw := (263, 2, 3, 420, zyx785a, zyh934, zyx785q)
noncomputable def zbzyx785e : Bool := zrunw zprog2 (zovW []) 100000 zcut0 3 420 kX8_passes (zkinL zyx785q) 0 (zargs 0 zyx785a, [], (zyh934.1, zyh934.2.1, 0), 0, 0)
/-! X8_passes -/
noncomputable def zyx786a : List zAV := [zyv315, zyv318]
noncomputable def zyx786q : List (Option zAV × zH) := [(some (.inl ((.ofNat 0, .ofNat 0), none)), zyh938), (some (.inl ((.ofNat 1, .ofNat 1), none)), zyh939)]
noncomputable def zyx786d : zKw := (263, 2, 3, 420, zyx786a, zyh937, zyx786q)
noncomputable def zbzyx786e : Bool := zrunw zprog2 (zovW []) 100000 zcut0 3 420 kX8_passes (zkinL zyx786q) 0 (zargs 0 zyx786a, [], (zyh937.1, zyh937.2.1, 0), 0, 0)
/-! X8_passes -/
noncomputable def zyx787a : List zAV := [zyv315, zyv318]
noncomputable def zyx787q : List (Option zAV × zH) := [(some (.inl ((.ofNat 0, .ofNat 0), none)), zyh941), (some (.inl ((.ofNat 1, .ofNat 1), none)), zyh942)]
noncomputable def zyx787d : zKw := (263, 2, 3, 420, zyx787a, zyh940, zyx787q)
noncomputable def zbzyx787e : Bool := zrunw zprog2 (zovW []) 100000 zcut0 3 420 kX8_passes (zkinL zyx787q) 0 (zargs 0 zyx787a, [], (zyh940.1, zyh940.2.1, 0), 0, 0)
/-! X8_passes -/
noncomputable def zyx788a : List zAV := [zyv315, zyv318]
noncomputable def zyx788q : List (Option zAV × zH) := [(some (.inl ((.ofNat 0, .ofNat 0), none)), zyh944), (some (.inl ((.ofNat 1, .ofNat 1), none)), zyh945)]
noncomputable def zyx788d : zKw := (263, 2, 3, 420, zyx788a, zyh943, zyx788q)
noncomputable def zbzyx788e : Bool := zrunw zprog2 (zovW []) 100000 zcut0 3 420 kX8_passes (zkinL zyx788q) 0 (zargs 0 zyx788a, [], (zyh943.1, zyh943.2.1, 0), 0, 0)
/-! X8_passes -/
noncomputable def zyx789a : List zAV := [zyv315, zyv318]
noncomputable def zyx789q : List (Option zAV × zH) := [(some (.inl ((.ofNat 0, .ofNat 0), none)), zyh947), (some (.inl ((.ofNat 1, .ofNat 1), none)), zyh948)]
noncomputable def zyx789d : zKw := (263, 2, 3, 420, zyx789a, zyh946, zyx789q)
noncomputable def zbzyx789e : Bool := zrunw zprog2 (zovW []) 100000 zcut0 3 420 kX8_passes (zkinL zyx789q) 0 (zargs 0 zyx789a, [], (zyh946.1, zyh946.2.1, 0), 0, 0)
/-! X8_passes -/
noncomputable def zyx790a : List zAV := [zyv315, zyv318]
noncomputable def zyx790q : List (Option zAV × zH) := [(some (.inl ((.ofNat 0, .ofNat 0), none)), zyh950), (some (.inl ((.ofNat 1, .ofNat 1), none)), zyh951)]
noncomputable def zyx790d : zKw := (263, 2, 3, 420, zyx790a, zyh949, zyx790q)
noncomputable def zbzyx790e : Bool := zrunw zprog2 (zovW []) 100000 zcut0 3 420 kX8_passes (zkinL zyx790q) 0 (zargs 0 zyx790a, [], (zyh949.1, zyh949.2.1, 0), 0, 0)
/-! X8_passes -/
noncomputable def zyx791a : List zAV := [zyv315, zyv318]
noncomputable def zyx791q : List (Option zAV × zH) := [(some (.inl ((.ofNat 0, .ofNat 0), none)), zyh953), (some (.inl ((.ofNat 1, .ofNat 1), none)), zyh954)]
noncomputable def zyx791d : zKw := (263, 2, 3, 420, zyx791a, zyh952, zyx791q)
noncomputable def zbzyx791e : Bool := zrunw zprog2 (zovW []) 100000 zcut0 3 420 kX8_passes (zkinL zyx791q) 0 (zargs 0 zyx791a, [], (zyh952.1, zyh952.2.1, 0), 0, 0)
/-! X8_passes -/
noncomputable def zyx792a : List zAV := [zyv315, zyv318]
noncomputable def zyx792q : List (Option zAV × zH) := [(some (.inl ((.ofNat 0, .ofNat 0), none)), zyh956), (some (.inl ((.ofNat 1, .ofNat 1), none)), zyh957)]
noncomputable def zyx792d : zKw := (263, 2, 3, 420, zyx792a, zyh955, zyx792q)
noncomputable def zbzyx792e : Bool := zrunw zprog2 (zovW []) 100000 zcut0 3 420 kX8_passes (zkinL zyx792q) 0 (zargs 0 zyx792a, [], (zyh955.1, zyh955.2.1, 0), 0, 0)
/-! X8_passes -/
noncomputable def zyx793a : List zAV := [zyv315, zyv318]
noncomputable def zyx793q : List (Option zAV × zH) := [(some (.inl ((.ofNat 0, .ofNat 0), none)), zyh959), (some (.inl ((.ofNat 1, .ofNat 1), none)), zyh960)]
noncomputable def zyx793d : zKw := (263, 2, 3, 420, zyx793a, zyh958, zyx793q)
noncomputable def zbzyx793e : Bool := zrunw zprog2 (zovW []) 100000 zcut0 3 420 kX8_passes (zkinL zyx793q) 0 (zargs 0 zyx793a, [], (zyh958.1, zyh958.2.1, 0), 0, 0)
/-! X8_passes -/
noncomputable def zyx794a : List zAV := [zyv315, zyv318]
noncomputable def zyx794q : List (Option zAV × zH) := [(some (.inl ((.ofNat 0, .ofNat 0), none)), zyh962), (some (.inl ((.ofNat 1, .ofNat 1), none)), zyh963)]
noncomputable def zyx794d : zKw := (263, 2, 3, 420, zyx794a, zyh961, zyx794q)
noncomputable def zbzyx794e : Bool := zrunw zprog2 (zovW []) 100000 zcut0 3 420 kX8_passes (zkinL zyx794q) 0 (zargs 0 zyx794a, [], (zyh961.1, zyh961.2.1, 0), 0, 0)
/-! X8_passes -/
noncomputable def zyx795a : List zAV := [zyv315, zyv318]
noncomputable def zyx795q : List (Option zAV × zH) := [(some (.inl ((.ofNat 0, .ofNat 0), none)), zyh965), (some (.inl ((.ofNat 1, .ofNat 1), none)), zyh966)]
noncomputable def zyx795d : zKw := (263, 2, 3, 420, zyx795a, zyh964, zyx795q)
noncomputable def zbzyx795e : Bool := zrunw zprog2 (zovW []) 100000 zcut0 3 420 kX8_passes (zkinL zyx795q) 0 (zargs 0 zyx795a, [], (zyh964.1, zyh964.2.1, 0), 0, 0)
/-! X8_passes -/
noncomputable def zyx796a : List zAV := [zyv315, zyv318]
noncomputable def zyx796q : List (Option zAV × zH) := [(some (.inl ((.ofNat 0, .ofNat 0), none)), zyh968), (some (.inl ((.ofNat 1, .ofNat 1), none)), zyh969)]
noncomputable def zyx796d : zKw := (263, 2, 3, 420, zyx796a, zyh967, zyx796q)
noncomputable def zbzyx796e : Bool := zrunw zprog2 (zovW []) 100000 zcut0 3 420 kX8_passes (zkinL zyx796q) 0 (zargs 0 zyx796a, [], (zyh967.1, zyh967.2.1, 0), 0, 0)
/-! X8_passes -/
noncomputable def zyx797a : List zAV := [zyv315, zyv318]
noncomputable def zyx797q : List (Option zAV × zH) := [(some (.inl ((.ofNat 0, .ofNat 0), none)), zyh971), (some (.inl ((.ofNat 1, .ofNat 1), none)), zyh972)]
noncomputable def zyx797d : zKw := (263, 2, 3, 420, zyx797a, zyh970, zyx797q)
noncomputable def zbzyx797e : Bool := zrunw zprog2 (zovW []) 100000 zcut0 3 420 kX8_passes (zkinL zyx797q) 0 (zargs 0 zyx797a, [], (zyh970.1, zyh970.2.1, 0), 0, 0)
/-! X8_passes -/
noncomputable def zyx798a : List zAV := [zyv315, zyv318]
noncomputable def zyx798q : List (Option zAV × zH) := [(some (.inl ((.ofNat 0, .ofNat 0), none)), zyh974), (some (.inl ((.ofNat 1, .ofNat 1), none)), zyh975)]
noncomputable def zyx798d : zKw := (263, 2, 3, 420, zyx798a, zyh973, zyx798q)
noncomputable def zbzyx798e : Bool := zrunw zprog2 (zovW []) 100000 zcut0 3 420 kX8_passes (zkinL zyx798q) 0 (zargs 0 zyx798a, [], (zyh973.1, zyh973.2.1, 0), 0, 0)
/-! X8_passes -/
noncomputable def zyx799a : List zAV := [zyv315, zyv318]
noncomputable def zyx799q : List (Option zAV × zH) := [(some (.inl ((.ofNat 0, .ofNat 0), none)), zyh977), (some (.inl ((.ofNat 1, .ofNat 1), none)), zyh978)]
noncomputable def zyx799d : zKw := (263, 2, 3, 420, zyx799a, zyh976, zyx799q)
noncomputable def zbzyx799e : Bool := zrunw zprog2 (zovW []) 100000 zcut0 3 420 kX8_passes (zkinL zyx799q) 0 (zargs 0 zyx799a, [], (zyh976.1, zyh976.2.1, 0), 0, 0)
/-! X8_passes -/
noncomputable def zyx800a : List zAV := [zyv315, zyv318]
noncomputable def zyx800q : List (Option zAV × zH) := [(some (.inl ((.ofNat 0, .ofNat 0), none)), zyh980), (some (.inl ((.ofNat 1, .ofNat 1), none)), zyh981)]
noncomputable def zyx800d : zKw := (263, 2, 3, 420, zyx800a, zyh979, zyx800q)
noncomputable def zbzyx800e : Bool := zrunw zprog2 (zovW []) 100000 zcut0 3 420 kX8_passes (zkinL zyx800q) 0 (zargs 0 zyx800a, [], (zyh979.1, zyh979.2.1, 0), 0, 0)
/-! X8_passes -/
noncomputable def zyx801a : List zAV := [zyv315, zyv318]
noncomputable def zyx801q : List (Option zAV × zH) := [(some (.inl ((.ofNat 0, .ofNat 0), none)), zyh983), (some (.inl ((.ofNat 1, .ofNat 1), none)), zyh984)]
noncomputable def zyx801d : zKw := (263, 2, 3, 420, zyx801a, zyh982, zyx801q)
noncomputable def zbzyx801e : Bool := zrunw zprog2 (zovW []) 100000 zcut0 3 420 kX8_passes (zkinL zyx801q) 0 (zargs 0 zyx801a, [], (zyh982.1, zyh982.2.1, 0), 0, 0)
/-! X8_passes -/
noncomputable def zyx802a : List zAV := [zyv315, zyv318]
noncomputable def zyx802q : List (Option zAV × zH) := [(some (.inl ((.ofNat 0, .ofNat 0), none)), zyh986), (some (.inl ((.ofNat 1, .ofNat 1), none)), zyh987)]
noncomputable def zyx802d : zKw := (263, 2, 3, 420, zyx802a, zyh985, zyx802q)
noncomputable def zbzyx802e : Bool := zrunw zprog2 (zovW []) 100000 zcut0 3 420 kX8_passes (zkinL zyx802q) 0 (zargs 0 zyx802a, [], (zyh985.1, zyh985.2.1, 0), 0, 0)
/-! X8_passes -/
noncomputable def zyx803a : List zAV := [zyv315, zyv318]
noncomputable def zyx803q : List (Option zAV × zH) := [(some (.inl ((.ofNat 0, .ofNat 0), none)), zyh989), (some (.inl ((.ofNat 1, .ofNat 1), none)), zyh990)]
noncomputable def zyx803d : zKw := (263, 2, 3, 420, zyx803a, zyh988, zyx803q)
noncomputable def zbzyx803e : Bool := zrunw zprog2 (zovW []) 100000 zcut0 3 420 kX8_passes (zkinL zyx803q) 0 (zargs 0 zyx803a, [], (zyh988.1, zyh988.2.1, 0), 0, 0)
/-! X8_passes -/
noncomputable def zyx804a : List zAV := [zyv315, zyv318]
noncomputable def zyx804q : List (Option zAV × zH) := [(some (.inl ((.ofNat 0, .ofNat 0), none)), zyh992), (some (.inl ((.ofNat 1, .ofNat 1), none)), zyh993)]
noncomputable def zyx804d : zKw := (263, 2, 3, 420, zyx804a, zyh991, zyx804q)
noncomputable def zbzyx804e : Bool := zrunw zprog2 (zovW []) 100000 zcut0 3 420 kX8_passes (zkinL zyx804q) 0 (zargs 0 zyx804a, [], (zyh991.1, zyh991.2.1, 0), 0, 0)
/-! X8_passes -/
noncomputable def zyx805a : List zAV := [zyv315, zyv318]
noncomputable def zyx805q : List (Option zAV × zH) := [(some (.inl ((.ofNat 0, .ofNat 0), none)), zyh995), (some (.inl ((.ofNat 1, .ofNat 1), none)), zyh996)]
noncomputable def zyx805d : zKw := (263, 2, 3, 420, zyx805a, zyh994, zyx805q)
noncomputable def zbzyx805e : Bool := zrunw zprog2 (zovW []) 100000 zcut0 3 420 kX8_passes (zkinL zyx805q) 0 (zargs 0 zyx805a, [], (zyh994.1, zyh994.2.1, 0), 0, 0)
/-! X8_passes -/
noncomputable def zyx806a : List zAV := [zyv315, zyv318]
noncomputable def zyx806q : List (Option zAV × zH) := [(some (.inl ((.ofNat 0, .ofNat 0), none)), zyh998), (some (.inl ((.ofNat 1, .ofNat 1), none)), zyh999)]
noncomputable def zyx806d : zKw := (263, 2, 3, 420, zyx806a, zyh997, zyx806q)
noncomputable def zbzyx806e : Bool := zrunw zprog2 (zovW []) 100000 zcut0 3 420 kX8_passes (zkinL zyx806q) 0 (zargs 0 zyx806a, [], (zyh997.1, zyh997.2.1, 0), 0, 0)
/-! X8_passes -/
noncomputable def zyx807a : List zAV := [zyv315, zyv318]
noncomputable def zyx807q : List (Option zAV × zH) := [(some (.inl ((.ofNat 0, .ofNat 0), none)), zyh1001), (some (.inl ((.ofNat 1, .ofNat 1), none)), zyh1002)]
noncomputable def zyx807d : zKw := (263, 2, 3, 420, zyx807a, zyh1000, zyx807q)
noncomputable def zbzyx807e : Bool := zrunw zprog2 (zovW []) 100000 zcut0 3 420 kX8_passes (zkinL zyx807q) 0 (zargs 0 zyx807a, [], (zyh1000.1, zyh1000.2.1, 0), 0, 0)
/-! X8_passes -/
noncomputable def zyx808a : List zAV := [zyv315, zyv318]
noncomputable def zyx808q : List (Option zAV × zH) := [(some (.inl ((.ofNat 0, .ofNat 0), none)), zyh1004), (some (.inl ((.ofNat 1, .ofNat 1), none)), zyh1005)]
noncomputable def zyx808d : zKw := (263, 2, 3, 420, zyx808a, zyh1003, zyx808q)
noncomputable def zbzyx808e : Bool := zrunw zprog2 (zovW []) 100000 zcut0 3 420 kX8_passes (zkinL zyx808q) 0 (zargs 0 zyx808a, [], (zyh1003.1, zyh1003.2.1, 0), 0, 0)
/-! X8_passes -/
noncomputable def zyx809a : List zAV := [zyv315, zyv318]
noncomputable def zyx809q : List (Option zAV × zH) := [(some (.inl ((.ofNat 0, .ofNat 0), none)), zyh1007), (some (.inl ((.ofNat 1, .ofNat 1), none)), zyh1008)]
noncomputable def zyx809d : zKw := (263, 2, 3, 420, zyx809a, zyh1006, zyx809q)
noncomputable def zbzyx809e : Bool := zrunw zprog2 (zovW []) 100000 zcut0 3 420 kX8_passes (zkinL zyx809q) 0 (zargs 0 zyx809a, [], (zyh1006.1, zyh1006.2.1, 0), 0, 0)
/-! X8_passes -/
noncomputable def zyx810a : List zAV := [zyv315, zyv318]
noncomputable def zyx810q : List (Option zAV × zH) := [(some (.inl ((.ofNat 0, .ofNat 0), none)), zyh1010), (some (.inl ((.ofNat 1, .ofNat 1), none)), zyh1011)]
noncomputable def zyx810d : zKw := (263, 2, 3, 420, zyx810a, zyh1009, zyx810q)
noncomputable def zbzyx810e : Bool := zrunw zprog2 (zovW []) 100000 zcut0 3 420 kX8_passes (zkinL zyx810q) 0 (zargs 0 zyx810a, [], (zyh1009.1, zyh1009.2.1, 0), 0, 0)
/-! X8_passes -/
noncomputable def zyx811a : List zAV := [zyv315, zyv318]
noncomputable def zyx811q : List (Option zAV × zH) := [(some (.inl ((.ofNat 0, .ofNat 0), none)), zyh1013), (some (.inl ((.ofNat 1, .ofNat 1), none)), zyh1014)]
noncomputable def zyx811d : zKw := (263, 2, 3, 420, zyx811a, zyh1012, zyx811q)
noncomputable def zbzyx811e : Bool := zrunw zprog2 (zovW []) 100000 zcut0 3 420 kX8_passes (zkinL zyx811q) 0 (zargs 0 zyx811a, [], (zyh1012.1, zyh1012.2.1, 0), 0, 0)
/-! X8_passes -/
noncomputable def zyx812a : List zAV := [zyv315, zyv318]
noncomputable def zyx812q : List (Option zAV × zH) := [(some (.inl ((.ofNat 0, .ofNat 0), none)), zyh1016), (some (.inl ((.ofNat 1, .ofNat 1), none)), zyh1017)]
noncomputable def zyx812d : zKw := (263, 2, 3, 420, zyx812a, zyh1015, zyx812q)
noncomputable def zbzyx812e : Bool := zrunw zprog2 (zovW []) 100000 zcut0 3 420 kX8_passes (zkinL zyx812q) 0 (zargs 0 zyx812a, [], (zyh1015.1, zyh1015.2.1, 0), 0, 0)
/-! X8_passes -/
noncomputable def zyx813a : List zAV := [zyv315, zyv318]
noncomputable def zyx813q : List (Option zAV × zH) := [(some (.inl ((.ofNat 0, .ofNat 0), none)), zyh1019), (some (.inl ((.ofNat 1, .ofNat 1), none)), zyh1020)]
noncomputable def zyx813d : zKw := (263, 2, 3, 420, zyx813a, zyh1018, zyx813q)
noncomputable def zbzyx813e : Bool := zrunw zprog2 (zovW []) 100000 zcut0 3 420 kX8_passes (zkinL zyx813q) 0 (zargs 0 zyx813a, [], (zyh1018.1, zyh1018.2.1, 0), 0, 0)
/-! X8_passes -/
noncomputable def zyx814a : List zAV := [zyv315, zyv318]
noncomputable def zyx814q : List (Option zAV × zH) := [(some (.inl ((.ofNat 0, .ofNat 0), none)), zyh1022), (some (.inl ((.ofNat 1, .ofNat 1), none)), zyh1023)]
noncomputable def zyx814d : zKw := (263, 2, 3, 420, zyx814a, zyh1021, zyx814q)
noncomputable def zbzyx814e : Bool := zrunw zprog2 (zovW []) 100000 zcut0 3 420 kX8_passes (zkinL zyx814q) 0 (zargs 0 zyx814a, [], (zyh1021.1, zyh1021.2.1, 0), 0, 0)
/-! X8_passes -/
noncomputable def zyx815a : List zAV := [zyv315, zyv318]
noncomputable def zyx815q : List (Option zAV × zH) := [(some (.inl ((.ofNat 0, .ofNat 0), none)), zyh1025), (some (.inl ((.ofNat 1, .ofNat 1), none)), zyh1026)]
noncomputable def zyx815d : zKw := (263, 2, 3, 420, zyx815a, zyh1024, zyx815q)
noncomputable def zbzyx815e : Bool := zrunw zprog2 (zovW []) 100000 zcut0 3 420 kX8_passes (zkinL zyx815q) 0 (zargs 0 zyx815a, [], (zyh1024.1, zyh1024.2.1, 0), 0, 0)
/-! X8_passes -/
noncomputable def zyx816a : List zAV := [zyv315, zyv318]
noncomputable def zyx816q : List (Option zAV × zH) := [(some (.inl ((.ofNat 0, .ofNat 0), none)), zyh1028), (some (.inl ((.ofNat 1, .ofNat 1), none)), zyh1029)]
noncomputable def zyx816d : zKw := (263, 2, 3, 420, zyx816a, zyh1027, zyx816q)
noncomputable def zbzyx816e : Bool := zrunw zprog2 (zovW []) 100000 zcut0 3 420 kX8_passes (zkinL zyx816q) 0 (zargs 0 zyx816a, [], (zyh1027.1, zyh1027.2.1, 0), 0, 0)
/-! X8_passes -/
noncomputable def zyx817a : List zAV := [zyv315, zyv318]
noncomputable def zyx817q : List (Option zAV × zH) := [(some (.inl ((.ofNat 0, .ofNat 0), none)), zyh1031), (some (.inl ((.ofNat 1, .ofNat 1), none)), zyh1032)]
noncomputable def zyx817d : zKw := (263, 2, 3, 420, zyx817a, zyh1030, zyx817q)
noncomputable def zbzyx817e : Bool := zrunw zprog2 (zovW []) 100000 zcut0 3 420 kX8_passes (zkinL zyx817q) 0 (zargs 0 zyx817a, [], (zyh1030.1, zyh1030.2.1, 0), 0, 0)
/-! X8_passes -/
noncomputable def zyx818a : List zAV := [zyv315, zyv318]
noncomputable def zyx818q : List (Option zAV × zH) := [(some (.inl ((.ofNat 0, .ofNat 0), none)), zyh1034), (some (.inl ((.ofNat 1, .ofNat 1), none)), zyh1035)]
noncomputable def zyx818d : zKw := (263, 2, 3, 420, zyx818a, zyh1033, zyx818q)
noncomputable def zbzyx818e : Bool := zrunw zprog2 (zovW []) 100000 zcut0 3 420 kX8_passes (zkinL zyx818q) 0 (zargs 0 zyx818a, [], (zyh1033.1, zyh1033.2.1, 0), 0, 0)
/-! X8_passes -/
noncomputable def zyx819a : List zAV := [zyv315, zyv318]
noncomputable def zyx819q : List (Option zAV × zH) := [(some (.inl ((.ofNat 0, .ofNat 0), none)), zyh1037), (some (.inl ((.ofNat 1, .ofNat 1), none)), zyh1038)]
noncomputable def zyx819d : zKw := (263, 2, 3, 420, zyx819a, zyh1036, zyx819q)
noncomputable def zbzyx819e : Bool := zrunw zprog2 (zovW []) 100000 zcut0 3 420 kX8_passes (zkinL zyx819q) 0 (zargs 0 zyx819a, [], (zyh1036.1, zyh1036.2.1, 0), 0, 0)
/-! X8_passes -/
noncomputable def zyx820a : List zAV := [zyv315, zyv318]
noncomputable def zyx820q : List (Option zAV × zH) := [(some (.inl ((.ofNat 0, .ofNat 0), none)), zyh1040)]
noncomputable def zyx820d : zKw := (263, 2, 3, 420, zyx820a, zyh1039, zyx820q)
noncomputable def zbzyx820e : Bool := zrunw zprog2 (zovW []) 100000 zcut0 3 420 kX8_passes (zkinL zyx820q) 0 (zargs 0 zyx820a, [], (zyh1039.1, zyh1039.2.1, 0), 0, 0)
/-! X8_thing -/
noncomputable def zyx821a : List zAV := [.inr (.inr (.inl 94)), .inl ((.ofNat 0, .ofNat 4), none)]
def zyx821r : Option zAV := some (.inl ((.negSucc 2147483647, .ofNat 2147483647), none))
noncomputable def zyx821d : zKw := (292, 4, 4, 540, zyx821a, zyh1039, [(zyx821r, zyh1040)])
noncomputable def zbzyx821e : Bool := zrunw zprog2 (zovW [zyx820d]) 100000 (zcutW [] none ((zyx821r, zyh1040), 4, 540) []) 4 540 k2X8_thing (zkin zyx821r zyh1040) 0 (zargs 0 zyx821a, [], (zyh1039.1, zyh1039.2.1, 0), 0, 0)
/-! X8_product ((('r', 103), 40, 40),) -/
noncomputable def zyx822a : List zAV := [.inr (.inr (.inl 94)), .inl ((.ofNat 0, .ofNat 4), none)]
def zyx822r : Option zAV := some (.inl ((.negSucc 2147483647, .ofNat 2147483647), none))
noncomputable def zyx822q : zPw := ((6, ([(0, .inr (.inr (.inl 94))), (1, .inl ((.ofNat 0, .ofNat 4), some (1, .ofNat 0))), (2, .inl ((.negSucc 2147483647, .ofNat 2147483647), some (2, .ofNat 0)))], [], zyh1040, 0, 0), [], 0), (zyx822r, zyh1040), 5, 660)
noncomputable def zbzyx822c : Bool := zchkX [(94, 15)] zprog2 (zovW [zyx821d]) 100000 k2X8_product [] [zyx822q] [zyx822q]
noncomputable def zyx822d : zKw := (265, 5, 5, 660, zyx822a, zyh1039, [(zyx822r, zyh1040)])
noncomputable def zbzyx822e : Bool := zrunw zprog2 (zovW [zyx821d]) 100000 (zcutW [(94, 15)] none ((zyx822r, zyh1040), 5, 660) [zyx822q]) 5 660 k2X8_product (zkin zyx822r zyh1040) 0 (zargs 0 zyx822a, [], (zyh1039.1, zyh1039.2.1, 0), 0, 0)
/-! X8_sum ((('r', 103), 40, 40),) -/
noncomputable def zyx823a : List zAV := [.inr (.inr (.inl 94)), .inl ((.ofNat 1, .ofNat 4), none)]
def zyx823r : Option zAV := some (.inl ((.negSucc 2147483647, .ofNat 2147483647), none))
noncomputable def zyx823q : zPw := ((6, ([(0, .inr (.inr (.inl 94))), (1, .inl ((.ofNat 0, .ofNat 4), some (1, .ofNat 0))), (2, .inl ((.negSucc 2147483647, .ofNat 2147483647), some (2, .ofNat 0)))], [], zyh1040, 0, 0), [], 0), (zyx823r, zyh1040), 6, 780)
noncomputable def zbzyx823c : Bool := zchkX [(94, 15)] zprog2 (zovW [zyx822d]) 100000 kX8_sum [] [zyx823q] [zyx823q]
noncomputable def zyx823d : zKw := (284, 5, 6, 780, zyx823a, zyh1039, [(zyx823r, zyh1040)])
noncomputable def zbzyx823e : Bool := zrunw zprog2 (zovW [zyx822d]) 100000 (zcutW [(94, 15)] none ((zyx823r, zyh1040), 6, 780) [zyx823q]) 6 780 kX8_sum (zkin zyx823r zyh1040) 0 (zargs 0 zyx823a, [], (zyh1039.1, zyh1039.2.1, 0), 0, 0)
/-! X8_heldBy -/
noncomputable def zyx824a : List zAV := [.inr (.inr (.inl 94)), .inl ((.ofNat 1, .ofNat 4), none)]
def zyx824r : Option zAV := some (.inl ((.negSucc 2147483647, .ofNat 2147483647), none))
noncomputable def zyx824d : zKw := (229, 3, 7, 900, zyx824a, zyh1039, [(zyx824r, zyh1040)])
noncomputable def zbzyx824e : Bool := zrunw zprog2 (zovW [zyx823d, zyx820d]) 100000 (zcutW [] none ((zyx824r, zyh1040), 7, 900) []) 7 900 kX8_heldBy (zkin zyx824r zyh1040) 0 (zargs 0 zyx824a, [], (zyh1039.1, zyh1039.2.1, 0), 0, 0)
/-! X8_oneOf -/
noncomputable def zyx825a : List zAV := [zyv315, zyv357, zyv358]
noncomputable def zyx825q : List (Option zAV × zH) := [(some (.inl ((.ofNat 0, .ofNat 0), none)), zyh1041), (some (.inl ((.negSucc 175, .ofNat 79), none)), zyh1038)]
noncomputable def zyx825d : zKw := (260, 3, 4, 480, zyx825a, zyh1036, zyx825q)
noncomputable def zbzyx825e : Bool := zrunw zprog2 (zovW []) 100000 zcut0 4 480 kX8_oneOf (zkinL zyx825q) 0 (zargs 0 zyx825a, [], (zyh1036.1, zyh1036.2.1, 0), 0, 0)
/-! X8_number -/
noncomputable def zyx826a : List zAV := [.inr (.inr (.inl 94)), .inl ((.ofNat 3, .ofNat 3), none)]
def zyx826r : Option zAV := some (.inl ((.negSucc 2147483647, .ofNat 2147483647), none))
noncomputable def zyx826q0 : zPw := ((11, ([(0, .inr (.inr (.inl 94))), (1, .inl ((.ofNat 3, .ofNat 3), some (1, .ofNat 0))), (2, .inl ((.negSucc 2147483647, .ofNat 2147483647), some (2, .ofNat 0))), (3, .inl ((.ofNat 1, .ofNat 3), some (3, .ofNat 0)))], [], zyh1037, 0, 0), [(3, .negSucc 1)], .ofNat 7), (zyx826r, zyh1037), 5, 600)
noncomputable def zbzyx826c0 : Bool := zchkX [] zprog2 (zovW [zyx825d]) 100000 kX8_number [] [zyx826q0] [zyx826q0]
noncomputable def zyx826d : zKw := (259, 4, 5, 600, zyx826a, zyh1036, [(zyx826r, zyh1037)])
noncomputable def zbzyx826e : Bool := zrunw zprog2 (zovW [zyx825d]) 100000 (zcutW [] none ((zyx826r, zyh1037), 5, 600) [zyx826q0]) 5 600 kX8_number (zkin zyx826r zyh1037) 0 (zargs 0 zyx826a, [], (zyh1036.1, zyh1036.2.1, 0), 0, 0)
/-! X8_thing -/
noncomputable def zyx827a : List zAV := [.inr (.inr (.inl 94)), .inl ((.ofNat 0, .ofNat 4), none)]
def zyx827r : Option zAV := some (.inl ((.negSucc 2147483647, .ofNat 2147483647), none))
noncomputable def zyx827d : zKw := (292, 4, 8, 1020, zyx827a, zyh1036, [(zyx827r, zyh1037)])
noncomputable def zbzyx827e : Bool := zrunw zprog2 (zovW [zyx824d, zyx821d, zyx820d, zyx826d, zyx819d]) 100000 (zcutW [] none ((zyx827r, zyh1037), 8, 1020) []) 8 1020 k2X8_thing (zkin zyx827r zyh1037) 0 (zargs 0 zyx827a, [], (zyh1036.1, zyh1036.2.1, 0), 0, 0)
/-! X8_product ((('r', 103), 40, 39),) -/
noncomputable def zyx828a : List zAV := [.inr (.inr (.inl 94)), .inl ((.ofNat 0, .ofNat 4), none)]
def zyx828r : Option zAV := some (.inl ((.negSucc 2147483647, .ofNat 2147483647), none))
noncomputable def zyx828q : zPw := ((6, ([(0, .inr (.inr (.inl 94))), (1, .inl ((.ofNat 0, .ofNat 4), some (1, .ofNat 0))), (2, .inl ((.negSucc 2147483647, .ofNat 2147483647), some (2, .ofNat 0)))], [], zyh1037, 0, 0), [], 0), (zyx828r, zyh1037), 9, 1140)
noncomputable def zbzyx828c : Bool := zchkX [(94, 15)] zprog2 (zovW [zyx821d, zyx827d]) 100000 k2X8_product [zyx822q] [zyx828q] [zyx828q]
noncomputable def zyx828d : zKw := (265, 5, 9, 1140, zyx828a, zyh1036, [(zyx828r, zyh1037)])
noncomputable def zbzyx828e : Bool := zrunw zprog2 (zovW [zyx821d, zyx827d]) 100000 (zcutW [(94, 15)] none ((zyx828r, zyh1037), 9, 1140) [zyx828q, zyx822q]) 9 1140 k2X8_product (zkin zyx828r zyh1037) 0 (zargs 0 zyx828a, [], (zyh1036.1, zyh1036.2.1, 0), 0, 0)
/-! X8_sum ((('r', 103), 40, 39),) -/
noncomputable def zyx829a : List zAV := [.inr (.inr (.inl 94)), .inl ((.ofNat 1, .ofNat 4), none)]
def zyx829r : Option zAV := some (.inl ((.negSucc 2147483647, .ofNat 2147483647), none))
noncomputable def zyx829q : zPw := ((6, ([(0, .inr (.inr (.inl 94))), (1, .inl ((.ofNat 0, .ofNat 4), some (1, .ofNat 0))), (2, .inl ((.negSucc 2147483647, .ofNat 2147483647), some (2, .ofNat 0)))], [], zyh1037, 0, 0), [], 0), (zyx829r, zyh1037), 10, 1260)
noncomputable def zbzyx829c : Bool := zchkX [(94, 15)] zprog2 (zovW [zyx822d, zyx828d]) 100000 kX8_sum [zyx823q] [zyx829q] [zyx829q]
noncomputable def zyx829d : zKw := (284, 5, 10, 1260, zyx829a, zyh1036, [(zyx829r, zyh1037)])
noncomputable def zbzyx829e : Bool := zrunw zprog2 (zovW [zyx822d, zyx828d]) 100000 (zcutW [(94, 15)] none ((zyx829r, zyh1037), 10, 1260) [zyx829q, zyx823q]) 10 1260 kX8_sum (zkin zyx829r zyh1037) 0 (zargs 0 zyx829a, [], (zyh1036.1, zyh1036.2.1, 0), 0, 0)
/-! X8_heldBy -/
noncomputable def zyx830a : List zAV := [.inr (.inr (.inl 94)), .inl ((.ofNat 1, .ofNat 4), none)]
def zyx830r : Option zAV := some (.inl ((.negSucc 2147483647, .ofNat 2147483647), none))
noncomputable def zyx830d : zKw := (229, 3, 11, 1380, zyx830a, zyh1036, [(zyx830r, zyh1037)])
noncomputable def zbzyx830e : Bool := zrunw zprog2 (zovW [zyx823d, zyx829d, zyx819d]) 100000 (zcutW [] none ((zyx830r, zyh1037), 11, 1380) []) 11 1380 kX8_heldBy (zkin zyx830r zyh1037) 0 (zargs 0 zyx830a, [], (zyh1036.1, zyh1036.2.1, 0), 0, 0)
/-! X8_oneOf -/
noncomputable def zyx831a : List zAV := [zyv315, zyv357, zyv358]
noncomputable def zyx831q : List (Option zAV × zH) := [(some (.inl ((.ofNat 0, .ofNat 0), none)), zyh1042), (some (.inl ((.negSucc 175, .ofNat 79), none)), zyh1035)]
noncomputable def zyx831d : zKw := (260, 3, 4, 480, zyx831a, zyh1033, zyx831q)
noncomputable def zbzyx831e : Bool := zrunw zprog2 (zovW []) 100000 zcut0 4 480 kX8_oneOf (zkinL zyx831q) 0 (zargs 0 zyx831a, [], (zyh1033.1, zyh1033.2.1, 0), 0, 0)
/-! X8_number -/
noncomputable def zyx832a : List zAV := [.inr (.inr (.inl 94)), .inl ((.ofNat 3, .ofNat 3), none)]
def zyx832r : Option zAV := some (.inl ((.negSucc 2147483647, .ofNat 2147483647), none))
noncomputable def zyx832q0 : zPw := ((11, ([(0, .inr (.inr (.inl 94))), (1, .inl ((.ofNat 3, .ofNat 3), some (1, .ofNat 0))), (2, .inl ((.negSucc 2147483647, .ofNat 2147483647), some (2, .ofNat 0))), (3, .inl ((.ofNat 1, .ofNat 3), some (3, .ofNat 0)))], [], zyh1034, 0, 0), [(3, .negSucc 1)], .ofNat 7), (zyx832r, zyh1034), 5, 600)
noncomputable def zbzyx832c0 : Bool := zchkX [] zprog2 (zovW [zyx831d]) 100000 kX8_number [] [zyx832q0] [zyx832q0]
noncomputable def zyx832d : zKw := (259, 4, 5, 600, zyx832a, zyh1033, [(zyx832r, zyh1034)])
noncomputable def zbzyx832e : Bool := zrunw zprog2 (zovW [zyx831d]) 100000 (zcutW [] none ((zyx832r, zyh1034), 5, 600) [zyx832q0]) 5 600 kX8_number (zkin zyx832r zyh1034) 0 (zargs 0 zyx832a, [], (zyh1033.1, zyh1033.2.1, 0), 0, 0)
/-! X8_thing -/
noncomputable def zyx833a : List zAV := [.inr (.inr (.inl 94)), .inl ((.ofNat 0, .ofNat 4), none)]
def zyx833r : Option zAV := some (.inl ((.negSucc 2147483647, .ofNat 2147483647), none))
noncomputable def zyx833d : zKw := (292, 4, 12, 1500, zyx833a, zyh1033, [(zyx833r, zyh1034)])
noncomputable def zbzyx833e : Bool := zrunw zprog2 (zovW [zyx830d, zyx827d, zyx819d, zyx832d, zyx818d]) 100000 (zcutW [] none ((zyx833r, zyh1034), 12, 1500) []) 12 1500 k2X8_thing (zkin zyx833r zyh1034) 0 (zargs 0 zyx833a, [], (zyh1033.1, zyh1033.2.1, 0), 0, 0)
/-! X8_product ((('r', 103), 40, 38),) -/
noncomputable def zyx834a : List zAV := [.inr (.inr (.inl 94)), .inl ((.ofNat 0, .ofNat 4), none)]
def zyx834r : Option zAV := some (.inl ((.negSucc 2147483647, .ofNat 2147483647), none))
noncomputable def zyx834q : zPw := ((6, ([(0, .inr (.inr (.inl 94))), (1, .inl ((.ofNat 0, .ofNat 4), some (1, .ofNat 0))), (2, .inl ((.negSucc 2147483647, .ofNat 2147483647), some (2, .ofNat 0)))], [], zyh1034, 0, 0), [], 0), (zyx834r, zyh1034), 13, 1620)
noncomputable def zbzyx834c : Bool := zchkX [(94, 15)] zprog2 (zovW [zyx827d, zyx833d]) 100000 k2X8_product [zyx828q, zyx822q] [zyx834q] [zyx834q]
noncomputable def zyx834d : zKw := (265, 5, 13, 1620, zyx834a, zyh1033, [(zyx834r, zyh1034)])
noncomputable def zbzyx834e : Bool := zrunw zprog2 (zovW [zyx827d, zyx833d]) 100000 (zcutW [(94, 15)] none ((zyx834r, zyh1034), 13, 1620) [zyx834q, zyx828q, zyx822q]) 13 1620 k2X8_product (zkin zyx834r zyh1034) 0 (zargs 0 zyx834a, [], (zyh1033.1, zyh1033.2.1, 0), 0, 0)
/-! X8_sum ((('r', 103), 40, 38),) -/
noncomputable def zyx835a : List zAV := [.inr (.inr (.inl 94)), .inl ((.ofNat 1, .ofNat 4), none)]
def zyx835r : Option zAV := some (.inl ((.negSucc 2147483647, .ofNat 2147483647), none))
noncomputable def zyx835q : zPw := ((6, ([(0, .inr (.inr (.inl 94))), (1, .inl ((.ofNat 0, .ofNat 4), some (1, .ofNat 0))), (2, .inl ((.negSucc 2147483647, .ofNat 2147483647), some (2, .ofNat 0)))], [], zyh1034, 0, 0), [], 0), (zyx835r, zyh1034), 14, 1740)
noncomputable def zbzyx835c : Bool := zchkX [(94, 15)] zprog2 (zovW [zyx828d, zyx834d]) 100000 kX8_sum [zyx829q, zyx823q] [zyx835q] [zyx835q]
noncomputable def zyx835d : zKw := (284, 5, 14, 1740, zyx835a, zyh1033, [(zyx835r, zyh1034)])
noncomputable def zbzyx835e : Bool := zrunw zprog2 (zovW [zyx828d, zyx834d]) 100000 (zcutW [(94, 15)] none ((zyx835r, zyh1034), 14, 1740) [zyx835q, zyx829q, zyx823q]) 14 1740 kX8_sum (zkin zyx835r zyh1034) 0 (zargs 0 zyx835a, [], (zyh1033.1, zyh1033.2.1, 0), 0, 0)
/-! X8_heldBy -/
noncomputable def zyx836a : List zAV := [.inr (.inr (.inl 94)), .inl ((.ofNat 1, .ofNat 4), none)]
def zyx836r : Option zAV := some (.inl ((.negSucc 2147483647, .ofNat 2147483647), none))
noncomputable def zyx836d : zKw := (229, 3, 15, 1860, zyx836a, zyh1033, [(zyx836r, zyh1034)])
noncomputable def zbzyx836e : Bool := zrunw zprog2 (zovW [zyx829d, zyx835d, zyx818d]) 100000 (zcutW [] none ((zyx836r, zyh1034), 15, 1860) []) 15 1860 kX8_heldBy (zkin zyx836r zyh1034) 0 (zargs 0 zyx836a, [], (zyh1033.1, zyh1033.2.1, 0), 0, 0)
/-! X8_oneOf -/
noncomputable def zyx837a : List zAV := [zyv315, zyv357, zyv358]
noncomputable def zyx837q : List (Option zAV × zH) := [(some (.inl ((.ofNat 0, .ofNat 0), none)), zyh1043), (some (.inl ((.negSucc 175, .ofNat 79), none)), zyh1032)]
noncomputable def zyx837d : zKw := (260, 3, 4, 480, zyx837a, zyh1030, zyx837q)
noncomputable def zbzyx837e : Bool := zrunw zprog2 (zovW []) 100000 zcut0 4 480 kX8_oneOf (zkinL zyx837q) 0 (zargs 0 zyx837a, [], (zyh1030.1, zyh1030.2.1, 0), 0, 0)
/-! X8_number -/
noncomputable def zyx838a : List zAV := [.inr (.inr (.inl 94)), .inl ((.ofNat 3, .ofNat 3), none)]
def zyx838r : Option zAV := some (.inl ((.negSucc 2147483647, .ofNat 2147483647), none))
noncomputable def zyx838q0 : zPw := ((11, ([(0, .inr (.inr (.inl 94))), (1, .inl ((.ofNat 3, .ofNat 3), some (1, .ofNat 0))), (2, .inl ((.negSucc 2147483647, .ofNat 2147483647), some (2, .ofNat 0))), (3, .inl ((.ofNat 1, .ofNat 3), some (3, .ofNat 0)))], [], zyh1031, 0, 0), [(3, .negSucc 1)], .ofNat 7), (zyx838r, zyh1031), 5, 600)
noncomputable def zbzyx838c0 : Bool := zchkX [] zprog2 (zovW [zyx837d]) 100000 kX8_number [] [zyx838q0] [zyx838q0]
noncomputable def zyx838d : zKw := (259, 4, 5, 600, zyx838a, zyh1030, [(zyx838r, zyh1031)])
noncomputable def zbzyx838e : Bool := zrunw zprog2 (zovW [zyx837d]) 100000 (zcutW [] none ((zyx838r, zyh1031), 5, 600) [zyx838q0]) 5 600 kX8_number (zkin zyx838r zyh1031) 0 (zargs 0 zyx838a, [], (zyh1030.1, zyh1030.2.1, 0), 0, 0)
/-! X8_thing -/
noncomputable def zyx839a : List zAV := [.inr (.inr (.inl 94)), .inl ((.ofNat 0, .ofNat 4), none)]
def zyx839r : Option zAV := some (.inl ((.negSucc 2147483647, .ofNat 2147483647), none))
noncomputable def zyx839d : zKw := (292, 4, 16, 1980, zyx839a, zyh1030, [(zyx839r, zyh1031)])
noncomputable def zbzyx839e : Bool := zrunw zprog2 (zovW [zyx836d, zyx833d, zyx818d, zyx838d, zyx817d]) 100000 (zcutW [] none ((zyx839r, zyh1031), 16, 1980) []) 16 1980 k2X8_thing (zkin zyx839r zyh1031) 0 (zargs 0 zyx839a, [], (zyh1030.1, zyh1030.2.1, 0), 0, 0)
/-! X8_product ((('r', 103), 40, 37),) -/
noncomputable def zyx840a : List zAV := [.inr (.inr (.inl 94)), .inl ((.ofNat 0, .ofNat 4), none)]
def zyx840r : Option zAV := some (.inl ((.negSucc 2147483647, .ofNat 2147483647), none))
noncomputable def zyx840q : zPw := ((6, ([(0, .inr (.inr (.inl 94))), (1, .inl ((.ofNat 0, .ofNat 4), some (1, .ofNat 0))), (2, .inl ((.negSucc 2147483647, .ofNat 2147483647), some (2, .ofNat 0)))], [], zyh1031, 0, 0), [], 0), (zyx840r, zyh1031), 17, 2100)
noncomputable def zbzyx840c : Bool := zchkX [(94, 15)] zprog2 (zovW [zyx833d, zyx839d]) 100000 k2X8_product [zyx834q, zyx828q, zyx822q] [zyx840q] [zyx840q]
noncomputable def zyx840d : zKw := (265, 5, 17, 2100, zyx840a, zyh1030, [(zyx840r, zyh1031)])
noncomputable def zbzyx840e : Bool := zrunw zprog2 (zovW [zyx833d, zyx839d]) 100000 (zcutW [(94, 15)] none ((zyx840r, zyh1031), 17, 2100) [zyx840q, zyx834q, zyx828q, zyx822q]) 17 2100 k2X8_product (zkin zyx840r zyh1031) 0 (zargs 0 zyx840a, [], (zyh1030.1, zyh1030.2.1, 0), 0, 0)
noncomputable def zyg36 : List Bool := [zbzyx781e, zbzyx782e, zbzyx783e, zbzyx784e, zbzyx785e, zbzyx786e, zbzyx787e, zbzyx788e, zbzyx789e, zbzyx790e, zbzyx791e, zbzyx792e, zbzyx793e, zbzyx794e, zbzyx795e, zbzyx796e, zbzyx797e, zbzyx798e, zbzyx799e, zbzyx800e, zbzyx801e, zbzyx802e, zbzyx803e, zbzyx804e, zbzyx805e, zbzyx806e, zbzyx807e, zbzyx808e, zbzyx809e, zbzyx810e, zbzyx811e, zbzyx812e, zbzyx813e, zbzyx814e, zbzyx815e, zbzyx816e, zbzyx817e, zbzyx818e, zbzyx819e, zbzyx820e, zbzyx821e, zbzyx822c, zbzyx822e, zbzyx823c, zbzyx823e, zbzyx824e, zbzyx825e, zbzyx826c0, zbzyx826e, zbzyx827e, zbzyx828c, zbzyx828e, zbzyx829c, zbzyx829e, zbzyx830e, zbzyx831e, zbzyx832c0, zbzyx832e, zbzyx833e, zbzyx834c, zbzyx834e, zbzyx835c, zbzyx835e, zbzyx836e, zbzyx837e, zbzyx838c0, zbzyx838e, zbzyx839e, zbzyx840c, zbzyx840e]
set_option maxRecDepth 100000 in
theorem zyg36_ok : zall (fun b => b) zyg36 = true := by decide +kernel
theorem zyx781e : zrunw zprog2 (zovW []) 100000 zcut0 3 420 kX8_passes (zkinL zyx781q) 0 (zargs 0 zyx781a, [], (zyh922.1, zyh922.2.1, 0), 0, 0) = true := zall_ok zyg36_ok (k := 0) (a := zbzyx781e) rfl
theorem zyx781 {l : Launch} {D : va_G} {tys : List (ClassId × FieldType)} {o : zO} {z : Nat} (E : zEnv tys) : zKnW l D vwCl tys o z (zXX o z) zTs zprog2 zyx781d :=
  zkn_ml E (fun g => fun _ h => absurd h List.not_mem_nil) (show zget zprog2 263 = some mX8_passes from rfl) rfl (by decide) (by decide) (by decide) (by decide) zyx781e
theorem zyx782e : zrunw zprog2 (zovW []) 100000 zcut0 3 420 kX8_passes (zkinL zyx782q) 0 (zargs 0 zyx782a, [], (zyh925.1, zyh925.2.1, 0), 0, 0) = true := zall_ok zyg36_ok (k := 1) (a := zbzyx782e) rfl
theorem zyx782 {l : Launch} {D : va_G} {tys : List (ClassId × FieldType)} {o : zO} {z : Nat} (E : zEnv tys) : zKnW l D vwCl tys o z (zXX o z) zTs zprog2 zyx782d :=
  zkn_ml E (fun g => fun _ h => absurd h List.not_mem_nil) (show zget zprog2 263 = some mX8_passes from rfl) rfl (by decide) (by decide) (by decide) (by decide) zyx782e
theorem zyx783e : zrunw zprog2 (zovW []) 100000 zcut0 3 420 kX8_passes (zkinL zyx783q) 0 (zargs 0 zyx783a, [], (zyh928.1, zyh928.2.1, 0), 0, 0) = true := zall_ok zyg36_ok (k := 2) (a := zbzyx783e) rfl
theorem zyx783 {l : Launch} {D : va_G} {tys : List (ClassId × FieldType)} {o : zO} {z : Nat} (E : zEnv tys) : zKnW l D vwCl tys o z (zXX o z) zTs zprog2 zyx783d :=
  zkn_ml E (fun g => fun _ h => absurd h List.not_mem_nil) (show zget zprog2 263 = some mX8_passes from rfl) rfl (by decide) (by decide) (by decide) (by decide) zyx783e
theorem zyx784e : zrunw zprog2 (zovW []) 100000 zcut0 3 420 kX8_passes (zkinL zyx784q) 0 (zargs 0 zyx784a, [], (zyh931.1, zyh931.2.1, 0), 0, 0) = true := zall_ok zyg36_ok (k := 3) (a := zbzyx784e) rfl
theorem zyx784 {l : Launch} {D : va_G} {tys : List (ClassId × FieldType)} {o : zO} {z : Nat} (E : zEnv tys) : zKnW l D vwCl tys o z (zXX o z) zTs zprog2 zyx784d :=
  zkn_ml E (fun g => fun _ h => absurd h List.not_mem_nil) (show zget zprog2 263 = some mX8_passes from rfl) rfl (by decide) (by decide) (by decide) (by decide) zyx784e
theorem zyx785e : zrunw zprog2 (zovW []) 100000 zcut0 3 420 kX8_passes (zkinL zyx785q) 0 (zargs 0 zyx785a, [], (zyh934.1, zyh934.2.1, 0), 0, 0) = true := zall_ok zyg36_ok (k := 4) (a := zbzyx785e) rfl
theorem zyx785 {l : Launch} {D : va_G} {tys : List (ClassId × FieldType)} {o : zO} {z : Nat} (E : zEnv tys) : zKnW l D vwCl tys o z (zXX o z) zTs zprog2 zyx785d :=
  zkn_ml E (fun g => fun _ h => absurd h List.not_mem_nil) (show zget zprog2 263 = some mX8_passes from rfl) rfl (by decide) (by decide) (by decide) (by decide) zyx785e
theorem zyx786e : zrunw zprog2 (zovW []) 100000 zcut0 3 420 kX8_passes (zkinL zyx786q) 0 (zargs 0 zyx786a, [], (zyh937.1, zyh937.2.1, 0), 0, 0) = true := zall_ok zyg36_ok (k := 5) (a := zbzyx786e) rfl
theorem zyx786 {l : Launch} {D : va_G} {tys : List (ClassId × FieldType)} {o : zO} {z : Nat} (E : zEnv tys) : zKnW l D vwCl tys o z (zXX o z) zTs zprog2 zyx786d :=
  zkn_ml E (fun g => fun _ h => absurd h List.not_mem_nil) (show zget zprog2 263 = some mX8_passes from rfl) rfl (by decide) (by decide) (by decide) (by decide) zyx786e
theorem zyx787e : zrunw zprog2 (zovW []) 100000 zcut0 3 420 kX8_passes (zkinL zyx787q) 0 (zargs 0 zyx787a, [], (zyh940.1, zyh940.2.1, 0), 0, 0) = true := zall_ok zyg36_ok (k := 6) (a := zbzyx787e) rfl
theorem zyx787 {l : Launch} {D : va_G} {tys : List (ClassId × FieldType)} {o : zO} {z : Nat} (E : zEnv tys) : zKnW l D vwCl tys o z (zXX o z) zTs zprog2 zyx787d :=
  zkn_ml E (fun g => fun _ h => absurd h List.not_mem_nil) (show zget zprog2 263 = some mX8_passes from rfl) rfl (by decide) (by decide) (by decide) (by decide) zyx787e
theorem zyx788e : zrunw zprog2 (zovW []) 100000 zcut0 3 420 kX8_passes (zkinL zyx788q) 0 (zargs 0 zyx788a, [], (zyh943.1, zyh943.2.1, 0), 0, 0) = true := zall_ok zyg36_ok (k := 7) (a := zbzyx788e) rfl
theorem zyx788 {l : Launch} {D : va_G} {tys : List (ClassId × FieldType)} {o : zO} {z : Nat} (E : zEnv tys) : zKnW l D vwCl tys o z (zXX o z) zTs zprog2 zyx788d :=
  zkn_ml E (fun g => fun _ h => absurd h List.not_mem_nil) (show zget zprog2 263 = some mX8_passes from rfl) rfl (by decide) (by decide) (by decide) (by decide) zyx788e
theorem zyx789e : zrunw zprog2 (zovW []) 100000 zcut0 3 420 kX8_passes (zkinL zyx789q) 0 (zargs 0 zyx789a, [], (zyh946.1, zyh946.2.1, 0), 0, 0) = true := zall_ok zyg36_ok (k := 8) (a := zbzyx789e) rfl
theorem zyx789 {l : Launch} {D : va_G} {tys : List (ClassId × FieldType)} {o : zO} {z : Nat} (E : zEnv tys) : zKnW l D vwCl tys o z (zXX o z) zTs zprog2 zyx789d :=
  zkn_ml E (fun g => fun _ h => absurd h List.not_mem_nil) (show zget zprog2 263 = some mX8_passes from rfl) rfl (by decide) (by decide) (by decide) (by decide) zyx789e
theorem zyx790e : zrunw zprog2 (zovW []) 100000 zcut0 3 420 kX8_passes (zkinL zyx790q) 0 (zargs 0 zyx790a, [], (zyh949.1, zyh949.2.1, 0), 0, 0) = true := zall_ok zyg36_ok (k := 9) (a := zbzyx790e) rfl
theorem zyx790 {l : Launch} {D : va_G} {tys : List (ClassId × FieldType)} {o : zO} {z : Nat} (E : zEnv tys) : zKnW l D vwCl tys o z (zXX o z) zTs zprog2 zyx790d :=
  zkn_ml E (fun g => fun _ h => absurd h List.not_mem_nil) (show zget zprog2 263 = some mX8_passes from rfl) rfl (by decide) (by decide) (by decide) (by decide) zyx790e
theorem zyx791e : zrunw zprog2 (zovW []) 100000 zcut0 3 420 kX8_passes (zkinL zyx791q) 0 (zargs 0 zyx791a, [], (zyh952.1, zyh952.2.1, 0), 0, 0) = true := zall_ok zyg36_ok (k := 10) (a := zbzyx791e) rfl
theorem zyx791 {l : Launch} {D : va_G} {tys : List (ClassId × FieldType)} {o : zO} {z : Nat} (E : zEnv tys) : zKnW l D vwCl tys o z (zXX o z) zTs zprog2 zyx791d :=
  zkn_ml E (fun g => fun _ h => absurd h List.not_mem_nil) (show zget zprog2 263 = some mX8_passes from rfl) rfl (by decide) (by decide) (by decide) (by decide) zyx791e
theorem zyx792e : zrunw zprog2 (zovW []) 100000 zcut0 3 420 kX8_passes (zkinL zyx792q) 0 (zargs 0 zyx792a, [], (zyh955.1, zyh955.2.1, 0), 0, 0) = true := zall_ok zyg36_ok (k := 11) (a := zbzyx792e) rfl
theorem zyx792 {l : Launch} {D : va_G} {tys : List (ClassId × FieldType)} {o : zO} {z : Nat} (E : zEnv tys) : zKnW l D vwCl tys o z (zXX o z) zTs zprog2 zyx792d :=
  zkn_ml E (fun g => fun _ h => absurd h List.not_mem_nil) (show zget zprog2 263 = some mX8_passes from rfl) rfl (by decide) (by decide) (by decide) (by decide) zyx792e
theorem zyx793e : zrunw zprog2 (zovW []) 100000 zcut0 3 420 kX8_passes (zkinL zyx793q) 0 (zargs 0 zyx793a, [], (zyh958.1, zyh958.2.1, 0), 0, 0) = true := zall_ok zyg36_ok (k := 12) (a := zbzyx793e) rfl
theorem zyx793 {l : Launch} {D : va_G} {tys : List (ClassId × FieldType)} {o : zO} {z : Nat} (E : zEnv tys) : zKnW l D vwCl tys o z (zXX o z) zTs zprog2 zyx793d :=
  zkn_ml E (fun g => fun _ h => absurd h List.not_mem_nil) (show zget zprog2 263 = some mX8_passes from rfl) rfl (by decide) (by decide) (by decide) (by decide) zyx793e
theorem zyx794e : zrunw zprog2 (zovW []) 100000 zcut0 3 420 kX8_passes (zkinL zyx794q) 0 (zargs 0 zyx794a, [], (zyh961.1, zyh961.2.1, 0), 0, 0) = true := zall_ok zyg36_ok (k := 13) (a := zbzyx794e) rfl
theorem zyx794 {l : Launch} {D : va_G} {tys : List (ClassId × FieldType)} {o : zO} {z : Nat} (E : zEnv tys) : zKnW l D vwCl tys o z (zXX o z) zTs zprog2 zyx794d :=
  zkn_ml E (fun g => fun _ h => absurd h List.not_mem_nil) (show zget zprog2 263 = some mX8_passes from rfl) rfl (by decide) (by decide) (by decide) (by decide) zyx794e
theorem zyx795e : zrunw zprog2 (zovW []) 100000 zcut0 3 420 kX8_passes (zkinL zyx795q) 0 (zargs 0 zyx795a, [], (zyh964.1, zyh964.2.1, 0), 0, 0) = true := zall_ok zyg36_ok (k := 14) (a := zbzyx795e) rfl
theorem zyx795 {l : Launch} {D : va_G} {tys : List (ClassId × FieldType)} {o : zO} {z : Nat} (E : zEnv tys) : zKnW l D vwCl tys o z (zXX o z) zTs zprog2 zyx795d :=
  zkn_ml E (fun g => fun _ h => absurd h List.not_mem_nil) (show zget zprog2 263 = some mX8_passes from rfl) rfl (by decide) (by decide) (by decide) (by decide) zyx795e
theorem zyx796e : zrunw zprog2 (zovW []) 100000 zcut0 3 420 kX8_passes (zkinL zyx796q) 0 (zargs 0 zyx796a, [], (zyh967.1, zyh967.2.1, 0), 0, 0) = true := zall_ok zyg36_ok (k := 15) (a := zbzyx796e) rfl
theorem zyx796 {l : Launch} {D : va_G} {tys : List (ClassId × FieldType)} {o : zO} {z : Nat} (E : zEnv tys) : zKnW l D vwCl tys o z (zXX o z) zTs zprog2 zyx796d :=
  zkn_ml E (fun g => fun _ h => absurd h List.not_mem_nil) (show zget zprog2 263 = some mX8_passes from rfl) rfl (by decide) (by decide) (by decide) (by decide) zyx796e
theorem zyx797e : zrunw zprog2 (zovW []) 100000 zcut0 3 420 kX8_passes (zkinL zyx797q) 0 (zargs 0 zyx797a, [], (zyh970.1, zyh970.2.1, 0), 0, 0) = true := zall_ok zyg36_ok (k := 16) (a := zbzyx797e) rfl
theorem zyx797 {l : Launch} {D : va_G} {tys : List (ClassId × FieldType)} {o : zO} {z : Nat} (E : zEnv tys) : zKnW l D vwCl tys o z (zXX o z) zTs zprog2 zyx797d :=
  zkn_ml E (fun g => fun _ h => absurd h List.not_mem_nil) (show zget zprog2 263 = some mX8_passes from rfl) rfl (by decide) (by decide) (by decide) (by decide) zyx797e
theorem zyx798e : zrunw zprog2 (zovW []) 100000 zcut0 3 420 kX8_passes (zkinL zyx798q) 0 (zargs 0 zyx798a, [], (zyh973.1, zyh973.2.1, 0), 0, 0) = true := zall_ok zyg36_ok (k := 17) (a := zbzyx798e) rfl
theorem zyx798 {l : Launch} {D : va_G} {tys : List (ClassId × FieldType)} {o : zO} {z : Nat} (E : zEnv tys) : zKnW l D vwCl tys o z (zXX o z) zTs zprog2 zyx798d :=
  zkn_ml E (fun g => fun _ h => absurd h List.not_mem_nil) (show zget zprog2 263 = some mX8_passes from rfl) rfl (by decide) (by decide) (by decide) (by decide) zyx798e
theorem zyx799e : zrunw zprog2 (zovW []) 100000 zcut0 3 420 kX8_passes (zkinL zyx799q) 0 (zargs 0 zyx799a, [], (zyh976.1, zyh976.2.1, 0), 0, 0) = true := zall_ok zyg36_ok (k := 18) (a := zbzyx799e) rfl
theorem zyx799 {l : Launch} {D : va_G} {tys : List (ClassId × FieldType)} {o : zO} {z : Nat} (E : zEnv tys) : zKnW l D vwCl tys o z (zXX o z) zTs zprog2 zyx799d :=
  zkn_ml E (fun g => fun _ h => absurd h List.not_mem_nil) (show zget zprog2 263 = some mX8_passes from rfl) rfl (by decide) (by decide) (by decide) (by decide) zyx799e
theorem zyx800e : zrunw zprog2 (zovW []) 100000 zcut0 3 420 kX8_passes (zkinL zyx800q) 0 (zargs 0 zyx800a, [], (zyh979.1, zyh979.2.1, 0), 0, 0) = true := zall_ok zyg36_ok (k := 19) (a := zbzyx800e) rfl
theorem zyx800 {l : Launch} {D : va_G} {tys : List (ClassId × FieldType)} {o : zO} {z : Nat} (E : zEnv tys) : zKnW l D vwCl tys o z (zXX o z) zTs zprog2 zyx800d :=
  zkn_ml E (fun g => fun _ h => absurd h List.not_mem_nil) (show zget zprog2 263 = some mX8_passes from rfl) rfl (by decide) (by decide) (by decide) (by decide) zyx800e
theorem zyx801e : zrunw zprog2 (zovW []) 100000 zcut0 3 420 kX8_passes (zkinL zyx801q) 0 (zargs 0 zyx801a, [], (zyh982.1, zyh982.2.1, 0), 0, 0) = true := zall_ok zyg36_ok (k := 20) (a := zbzyx801e) rfl
theorem zyx801 {l : Launch} {D : va_G} {tys : List (ClassId × FieldType)} {o : zO} {z : Nat} (E : zEnv tys) : zKnW l D vwCl tys o z (zXX o z) zTs zprog2 zyx801d :=
  zkn_ml E (fun g => fun _ h => absurd h List.not_mem_nil) (show zget zprog2 263 = some mX8_passes from rfl) rfl (by decide) (by decide) (by decide) (by decide) zyx801e
theorem zyx802e : zrunw zprog2 (zovW []) 100000 zcut0 3 420 kX8_passes (zkinL zyx802q) 0 (zargs 0 zyx802a, [], (zyh985.1, zyh985.2.1, 0), 0, 0) = true := zall_ok zyg36_ok (k := 21) (a := zbzyx802e) rfl
theorem zyx802 {l : Launch} {D : va_G} {tys : List (ClassId × FieldType)} {o : zO} {z : Nat} (E : zEnv tys) : zKnW l D vwCl tys o z (zXX o z) zTs zprog2 zyx802d :=
  zkn_ml E (fun g => fun _ h => absurd h List.not_mem_nil) (show zget zprog2 263 = some mX8_passes from rfl) rfl (by decide) (by decide) (by decide) (by decide) zyx802e
theorem zyx803e : zrunw zprog2 (zovW []) 100000 zcut0 3 420 kX8_passes (zkinL zyx803q) 0 (zargs 0 zyx803a, [], (zyh988.1, zyh988.2.1, 0), 0, 0) = true := zall_ok zyg36_ok (k := 22) (a := zbzyx803e) rfl
theorem zyx803 {l : Launch} {D : va_G} {tys : List (ClassId × FieldType)} {o : zO} {z : Nat} (E : zEnv tys) : zKnW l D vwCl tys o z (zXX o z) zTs zprog2 zyx803d :=
  zkn_ml E (fun g => fun _ h => absurd h List.not_mem_nil) (show zget zprog2 263 = some mX8_passes from rfl) rfl (by decide) (by decide) (by decide) (by decide) zyx803e
theorem zyx804e : zrunw zprog2 (zovW []) 100000 zcut0 3 420 kX8_passes (zkinL zyx804q) 0 (zargs 0 zyx804a, [], (zyh991.1, zyh991.2.1, 0), 0, 0) = true := zall_ok zyg36_ok (k := 23) (a := zbzyx804e) rfl
theorem zyx804 {l : Launch} {D : va_G} {tys : List (ClassId × FieldType)} {o : zO} {z : Nat} (E : zEnv tys) : zKnW l D vwCl tys o z (zXX o z) zTs zprog2 zyx804d :=
  zkn_ml E (fun g => fun _ h => absurd h List.not_mem_nil) (show zget zprog2 263 = some mX8_passes from rfl) rfl (by decide) (by decide) (by decide) (by decide) zyx804e
theorem zyx805e : zrunw zprog2 (zovW []) 100000 zcut0 3 420 kX8_passes (zkinL zyx805q) 0 (zargs 0 zyx805a, [], (zyh994.1, zyh994.2.1, 0), 0, 0) = true := zall_ok zyg36_ok (k := 24) (a := zbzyx805e) rfl
theorem zyx805 {l : Launch} {D : va_G} {tys : List (ClassId × FieldType)} {o : zO} {z : Nat} (E : zEnv tys) : zKnW l D vwCl tys o z (zXX o z) zTs zprog2 zyx805d :=
  zkn_ml E (fun g => fun _ h => absurd h List.not_mem_nil) (show zget zprog2 263 = some mX8_passes from rfl) rfl (by decide) (by decide) (by decide) (by decide) zyx805e
theorem zyx806e : zrunw zprog2 (zovW []) 100000 zcut0 3 420 kX8_passes (zkinL zyx806q) 0 (zargs 0 zyx806a, [], (zyh997.1, zyh997.2.1, 0), 0, 0) = true := zall_ok zyg36_ok (k := 25) (a := zbzyx806e) rfl
theorem zyx806 {l : Launch} {D : va_G} {tys : List (ClassId × FieldType)} {o : zO} {z : Nat} (E : zEnv tys) : zKnW l D vwCl tys o z (zXX o z) zTs zprog2 zyx806d :=
  zkn_ml E (fun g => fun _ h => absurd h List.not_mem_nil) (show zget zprog2 263 = some mX8_passes from rfl) rfl (by decide) (by decide) (by decide) (by decide) zyx806e
theorem zyx807e : zrunw zprog2 (zovW []) 100000 zcut0 3 420 kX8_passes (zkinL zyx807q) 0 (zargs 0 zyx807a, [], (zyh1000.1, zyh1000.2.1, 0), 0, 0) = true := zall_ok zyg36_ok (k := 26) (a := zbzyx807e) rfl
theorem zyx807 {l : Launch} {D : va_G} {tys : List (ClassId × FieldType)} {o : zO} {z : Nat} (E : zEnv tys) : zKnW l D vwCl tys o z (zXX o z) zTs zprog2 zyx807d :=
  zkn_ml E (fun g => fun _ h => absurd h List.not_mem_nil) (show zget zprog2 263 = some mX8_passes from rfl) rfl (by decide) (by decide) (by decide) (by decide) zyx807e
theorem zyx808e : zrunw zprog2 (zovW []) 100000 zcut0 3 420 kX8_passes (zkinL zyx808q) 0 (zargs 0 zyx808a, [], (zyh1003.1, zyh1003.2.1, 0), 0, 0) = true := zall_ok zyg36_ok (k := 27) (a := zbzyx808e) rfl
theorem zyx808 {l : Launch} {D : va_G} {tys : List (ClassId × FieldType)} {o : zO} {z : Nat} (E : zEnv tys) : zKnW l D vwCl tys o z (zXX o z) zTs zprog2 zyx808d :=
  zkn_ml E (fun g => fun _ h => absurd h List.not_mem_nil) (show zget zprog2 263 = some mX8_passes from rfl) rfl (by decide) (by decide) (by decide) (by decide) zyx808e
theorem zyx809e : zrunw zprog2 (zovW []) 100000 zcut0 3 420 kX8_passes (zkinL zyx809q) 0 (zargs 0 zyx809a, [], (zyh1006.1, zyh1006.2.1, 0), 0, 0) = true := zall_ok zyg36_ok (k := 28) (a := zbzyx809e) rfl
theorem zyx809 {l : Launch} {D : va_G} {tys : List (ClassId × FieldType)} {o : zO} {z : Nat} (E : zEnv tys) : zKnW l D vwCl tys o z (zXX o z) zTs zprog2 zyx809d :=
  zkn_ml E (fun g => fun _ h => absurd h List.not_mem_nil) (show zget zprog2 263 = some mX8_passes from rfl) rfl (by decide) (by decide) (by decide) (by decide) zyx809e
theorem zyx810e : zrunw zprog2 (zovW []) 100000 zcut0 3 420 kX8_passes (zkinL zyx810q) 0 (zargs 0 zyx810a, [], (zyh1009.1, zyh1009.2.1, 0), 0, 0) = true := zall_ok zyg36_ok (k := 29) (a := zbzyx810e) rfl
theorem zyx810 {l : Launch} {D : va_G} {tys : List (ClassId × FieldType)} {o : zO} {z : Nat} (E : zEnv tys) : zKnW l D vwCl tys o z (zXX o z) zTs zprog2 zyx810d :=
  zkn_ml E (fun g => fun _ h => absurd h List.not_mem_nil) (show zget zprog2 263 = some mX8_passes from rfl) rfl (by decide) (by decide) (by decide) (by decide) zyx810e
theorem zyx811e : zrunw zprog2 (zovW []) 100000 zcut0 3 420 kX8_passes (zkinL zyx811q) 0 (zargs 0 zyx811a, [], (zyh1012.1, zyh1012.2.1, 0), 0, 0) = true := zall_ok zyg36_ok (k := 30) (a := zbzyx811e) rfl
theorem zyx811 {l : Launch} {D : va_G} {tys : List (ClassId × FieldType)} {o : zO} {z : Nat} (E : zEnv tys) : zKnW l D vwCl tys o z (zXX o z) zTs zprog2 zyx811d :=
  zkn_ml E (fun g => fun _ h => absurd h List.not_mem_nil) (show zget zprog2 263 = some mX8_passes from rfl) rfl (by decide) (by decide) (by decide) (by decide) zyx811e
theorem zyx812e : zrunw zprog2 (zovW []) 100000 zcut0 3 420 kX8_passes (zkinL zyx812q) 0 (zargs 0 zyx812a, [], (zyh1015.1, zyh1015.2.1, 0), 0, 0) = true := zall_ok zyg36_ok (k := 31) (a := zbzyx812e) rfl
theorem zyx812 {l : Launch} {D : va_G} {tys : List (ClassId × FieldType)} {o : zO} {z : Nat} (E : zEnv tys) : zKnW l D vwCl tys o z (zXX o z) zTs zprog2 zyx812d :=
  zkn_ml E (fun g => fun _ h => absurd h List.not_mem_nil) (show zget zprog2 263 = some mX8_passes from rfl) rfl (by decide) (by decide) (by decide) (by decide) zyx812e
theorem zyx813e : zrunw zprog2 (zovW []) 100000 zcut0 3 420 kX8_passes (zkinL zyx813q) 0 (zargs 0 zyx813a, [], (zyh1018.1, zyh1018.2.1, 0), 0, 0) = true := zall_ok zyg36_ok (k := 32) (a := zbzyx813e) rfl
theorem zyx813 {l : Launch} {D : va_G} {tys : List (ClassId × FieldType)} {o : zO} {z : Nat} (E : zEnv tys) : zKnW l D vwCl tys o z (zXX o z) zTs zprog2 zyx813d :=
  zkn_ml E (fun g => fun _ h => absurd h List.not_mem_nil) (show zget zprog2 263 = some mX8_passes from rfl) rfl (by decide) (by decide) (by decide) (by decide) zyx813e
theorem zyx814e : zrunw zprog2 (zovW []) 100000 zcut0 3 420 kX8_passes (zkinL zyx814q) 0 (zargs 0 zyx814a, [], (zyh1021.1, zyh1021.2.1, 0), 0, 0) = true := zall_ok zyg36_ok (k := 33) (a := zbzyx814e) rfl
theorem zyx814 {l : Launch} {D : va_G} {tys : List (ClassId × FieldType)} {o : zO} {z : Nat} (E : zEnv tys) : zKnW l D vwCl tys o z (zXX o z) zTs zprog2 zyx814d :=
  zkn_ml E (fun g => fun _ h => absurd h List.not_mem_nil) (show zget zprog2 263 = some mX8_passes from rfl) rfl (by decide) (by decide) (by decide) (by decide) zyx814e
theorem zyx815e : zrunw zprog2 (zovW []) 100000 zcut0 3 420 kX8_passes (zkinL zyx815q) 0 (zargs 0 zyx815a, [], (zyh1024.1, zyh1024.2.1, 0), 0, 0) = true := zall_ok zyg36_ok (k := 34) (a := zbzyx815e) rfl
theorem zyx815 {l : Launch} {D : va_G} {tys : List (ClassId × FieldType)} {o : zO} {z : Nat} (E : zEnv tys) : zKnW l D vwCl tys o z (zXX o z) zTs zprog2 zyx815d :=
  zkn_ml E (fun g => fun _ h => absurd h List.not_mem_nil) (show zget zprog2 263 = some mX8_passes from rfl) rfl (by decide) (by decide) (by decide) (by decide) zyx815e
theorem zyx816e : zrunw zprog2 (zovW []) 100000 zcut0 3 420 kX8_passes (zkinL zyx816q) 0 (zargs 0 zyx816a, [], (zyh1027.1, zyh1027.2.1, 0), 0, 0) = true := zall_ok zyg36_ok (k := 35) (a := zbzyx816e) rfl
theorem zyx816 {l : Launch} {D : va_G} {tys : List (ClassId × FieldType)} {o : zO} {z : Nat} (E : zEnv tys) : zKnW l D vwCl tys o z (zXX o z) zTs zprog2 zyx816d :=
  zkn_ml E (fun g => fun _ h => absurd h List.not_mem_nil) (show zget zprog2 263 = some mX8_passes from rfl) rfl (by decide) (by decide) (by decide) (by decide) zyx816e
theorem zyx817e : zrunw zprog2 (zovW []) 100000 zcut0 3 420 kX8_passes (zkinL zyx817q) 0 (zargs 0 zyx817a, [], (zyh1030.1, zyh1030.2.1, 0), 0, 0) = true := zall_ok zyg36_ok (k := 36) (a := zbzyx817e) rfl
theorem zyx817 {l : Launch} {D : va_G} {tys : List (ClassId × FieldType)} {o : zO} {z : Nat} (E : zEnv tys) : zKnW l D vwCl tys o z (zXX o z) zTs zprog2 zyx817d :=
  zkn_ml E (fun g => fun _ h => absurd h List.not_mem_nil) (show zget zprog2 263 = some mX8_passes from rfl) rfl (by decide) (by decide) (by decide) (by decide) zyx817e
theorem zyx818e : zrunw zprog2 (zovW []) 100000 zcut0 3 420 kX8_passes (zkinL zyx818q) 0 (zargs 0 zyx818a, [], (zyh1033.1, zyh1033.2.1, 0), 0, 0) = true := zall_ok zyg36_ok (k := 37) (a := zbzyx818e) rfl
theorem zyx818 {l : Launch} {D : va_G} {tys : List (ClassId × FieldType)} {o : zO} {z : Nat} (E : zEnv tys) : zKnW l D vwCl tys o z (zXX o z) zTs zprog2 zyx818d :=
  zkn_ml E (fun g => fun _ h => absurd h List.not_mem_nil) (show zget zprog2 263 = some mX8_passes from rfl) rfl (by decide) (by decide) (by decide) (by decide) zyx818e
theorem zyx819e : zrunw zprog2 (zovW []) 100000 zcut0 3 420 kX8_passes (zkinL zyx819q) 0 (zargs 0 zyx819a, [], (zyh1036.1, zyh1036.2.1, 0), 0, 0) = true := zall_ok zyg36_ok (k := 38) (a := zbzyx819e) rfl
theorem zyx819 {l : Launch} {D : va_G} {tys : List (ClassId × FieldType)} {o : zO} {z : Nat} (E : zEnv tys) : zKnW l D vwCl tys o z (zXX o z) zTs zprog2 zyx819d :=
  zkn_ml E (fun g => fun _ h => absurd h List.not_mem_nil) (show zget zprog2 263 = some mX8_passes from rfl) rfl (by decide) (by decide) (by decide) (by decide) zyx819e
theorem zyx820e : zrunw zprog2 (zovW []) 100000 zcut0 3 420 kX8_passes (zkinL zyx820q) 0 (zargs 0 zyx820a, [], (zyh1039.1, zyh1039.2.1, 0), 0, 0) = true := zall_ok zyg36_ok (k := 39) (a := zbzyx820e) rfl
theorem zyx820 {l : Launch} {D : va_G} {tys : List (ClassId × FieldType)} {o : zO} {z : Nat} (E : zEnv tys) : zKnW l D vwCl tys o z (zXX o z) zTs zprog2 zyx820d :=
  zkn_ml E (fun g => fun _ h => absurd h List.not_mem_nil) (show zget zprog2 263 = some mX8_passes from rfl) rfl (by decide) (by decide) (by decide) (by decide) zyx820e
theorem zyx821e : zrunw zprog2 (zovW [zyx820d]) 100000 (zcutW [] none ((zyx821r, zyh1040), 4, 540) []) 4 540 k2X8_thing (zkin zyx821r zyh1040) 0 (zargs 0 zyx821a, [], (zyh1039.1, zyh1039.2.1, 0), 0, 0) = true := zall_ok zyg36_ok (k := 40) (a := zbzyx821e) rfl
theorem zyx821 {l : Launch} {D : va_G} {tys : List (ClassId × FieldType)} {o : zO} {z : Nat} (E : zEnv tys) : zKnW l D vwCl tys o z (zXX o z) zTs zprog2 zyx821d :=
  zkn_mk E (fun g => List.forall_mem_cons.mpr ⟨zyx820 (o := zwith o g) E, fun _ h => absurd h List.not_mem_nil⟩) (show zget zprog2 292 = some m2X8_thing from rfl) rfl (by decide) (by decide) (by decide) (by decide) (G := []) (fun _ h => absurd h List.not_mem_nil) zyx821e
theorem zyx822c : zchkX [(94, 15)] zprog2 (zovW [zyx821d]) 100000 k2X8_product [] [zyx822q] [zyx822q] = true := zall_ok zyg36_ok (k := 41) (a := zbzyx822c) rfl
theorem zyx822k {l : Launch} {D : va_G} {tys : List (ClassId × FieldType)} {o : zO} {z : Nat} (E : zEnv tys) : zPtOk l D vwCl tys o z (zXX o z) zTs m2X8_product zyx822q := zkn_pt E (fun g => List.forall_mem_cons.mpr ⟨zyx821 (o := zwith o g) E, fun _ h => absurd h List.not_mem_nil⟩) (show zget zprog2 265 = some m2X8_product from rfl) (fun _ h => absurd h List.not_mem_nil) zyx822c _ List.mem_cons_self
theorem zyx822e : zrunw zprog2 (zovW [zyx821d]) 100000 (zcutW [(94, 15)] none ((zyx822r, zyh1040), 5, 660) [zyx822q]) 5 660 k2X8_product (zkin zyx822r zyh1040) 0 (zargs 0 zyx822a, [], (zyh1039.1, zyh1039.2.1, 0), 0, 0) = true := zall_ok zyg36_ok (k := 42) (a := zbzyx822e) rfl
theorem zyx822 {l : Launch} {D : va_G} {tys : List (ClassId × FieldType)} {o : zO} {z : Nat} (E : zEnv tys) : zKnW l D vwCl tys o z (zXX o z) zTs zprog2 zyx822d :=
  zkn_mk E (fun g => List.forall_mem_cons.mpr ⟨zyx821 (o := zwith o g) E, fun _ h => absurd h List.not_mem_nil⟩) (show zget zprog2 265 = some m2X8_product from rfl) rfl (by decide) (by decide) (by decide) (by decide) (G := [zyx822q]) (List.forall_mem_cons.mpr ⟨zyx822k E, fun _ h => absurd h List.not_mem_nil⟩) zyx822e
theorem zyx823c : zchkX [(94, 15)] zprog2 (zovW [zyx822d]) 100000 kX8_sum [] [zyx823q] [zyx823q] = true := zall_ok zyg36_ok (k := 43) (a := zbzyx823c) rfl
theorem zyx823k {l : Launch} {D : va_G} {tys : List (ClassId × FieldType)} {o : zO} {z : Nat} (E : zEnv tys) : zPtOk l D vwCl tys o z (zXX o z) zTs mX8_sum zyx823q := zkn_pt E (fun g => List.forall_mem_cons.mpr ⟨zyx822 (o := zwith o g) E, fun _ h => absurd h List.not_mem_nil⟩) (show zget zprog2 284 = some mX8_sum from rfl) (fun _ h => absurd h List.not_mem_nil) zyx823c _ List.mem_cons_self
theorem zyx823e : zrunw zprog2 (zovW [zyx822d]) 100000 (zcutW [(94, 15)] none ((zyx823r, zyh1040), 6, 780) [zyx823q]) 6 780 kX8_sum (zkin zyx823r zyh1040) 0 (zargs 0 zyx823a, [], (zyh1039.1, zyh1039.2.1, 0), 0, 0) = true := zall_ok zyg36_ok (k := 44) (a := zbzyx823e) rfl
theorem zyx823 {l : Launch} {D : va_G} {tys : List (ClassId × FieldType)} {o : zO} {z : Nat} (E : zEnv tys) : zKnW l D vwCl tys o z (zXX o z) zTs zprog2 zyx823d :=
  zkn_mk E (fun g => List.forall_mem_cons.mpr ⟨zyx822 (o := zwith o g) E, fun _ h => absurd h List.not_mem_nil⟩) (show zget zprog2 284 = some mX8_sum from rfl) rfl (by decide) (by decide) (by decide) (by decide) (G := [zyx823q]) (List.forall_mem_cons.mpr ⟨zyx823k E, fun _ h => absurd h List.not_mem_nil⟩) zyx823e
theorem zyx824e : zrunw zprog2 (zovW [zyx823d, zyx820d]) 100000 (zcutW [] none ((zyx824r, zyh1040), 7, 900) []) 7 900 kX8_heldBy (zkin zyx824r zyh1040) 0 (zargs 0 zyx824a, [], (zyh1039.1, zyh1039.2.1, 0), 0, 0) = true := zall_ok zyg36_ok (k := 45) (a := zbzyx824e) rfl
theorem zyx824 {l : Launch} {D : va_G} {tys : List (ClassId × FieldType)} {o : zO} {z : Nat} (E : zEnv tys) : zKnW l D vwCl tys o z (zXX o z) zTs zprog2 zyx824d :=
  zkn_mk E (fun g => List.forall_mem_cons.mpr ⟨zyx823 (o := zwith o g) E, List.forall_mem_cons.mpr ⟨zyx820 (o := zwith o g) E, fun _ h => absurd h List.not_mem_nil⟩⟩) (show zget zprog2 229 = some mX8_heldBy from rfl) rfl (by decide) (by decide) (by decide) (by decide) (G := []) (fun _ h => absurd h List.not_mem_nil) zyx824e
theorem zyx825e : zrunw zprog2 (zovW []) 100000 zcut0 4 480 kX8_oneOf (zkinL zyx825q) 0 (zargs 0 zyx825a, [], (zyh1036.1, zyh1036.2.1, 0), 0, 0) = true := zall_ok zyg36_ok (k := 46) (a := zbzyx825e) rfl
theorem zyx825 {l : Launch} {D : va_G} {tys : List (ClassId × FieldType)} {o : zO} {z : Nat} (E : zEnv tys) : zKnW l D vwCl tys o z (zXX o z) zTs zprog2 zyx825d :=
  zkn_ml E (fun g => fun _ h => absurd h List.not_mem_nil) (show zget zprog2 260 = some mX8_oneOf from rfl) rfl (by decide) (by decide) (by decide) (by decide) zyx825e
theorem zyx826c0 : zchkX [] zprog2 (zovW [zyx825d]) 100000 kX8_number [] [zyx826q0] [zyx826q0] = true := zall_ok zyg36_ok (k := 47) (a := zbzyx826c0) rfl
theorem zyx826_k0 {l : Launch} {D : va_G} {tys : List (ClassId × FieldType)} {o : zO} {z : Nat} (E : zEnv tys) : zPtOk l D vwCl tys o z (zXX o z) zTs mX8_number zyx826q0 := zkn_pt E (fun g => List.forall_mem_cons.mpr ⟨zyx825 (o := zwith o g) E, fun _ h => absurd h List.not_mem_nil⟩) (show zget zprog2 259 = some mX8_number from rfl) (fun _ h => absurd h List.not_mem_nil) zyx826c0 _ (List.mem_of_getElem? (i := 0) rfl)
theorem zyx826e : zrunw zprog2 (zovW [zyx825d]) 100000 (zcutW [] none ((zyx826r, zyh1037), 5, 600) [zyx826q0]) 5 600 kX8_number (zkin zyx826r zyh1037) 0 (zargs 0 zyx826a, [], (zyh1036.1, zyh1036.2.1, 0), 0, 0) = true := zall_ok zyg36_ok (k := 48) (a := zbzyx826e) rfl
theorem zyx826 {l : Launch} {D : va_G} {tys : List (ClassId × FieldType)} {o : zO} {z : Nat} (E : zEnv tys) : zKnW l D vwCl tys o z (zXX o z) zTs zprog2 zyx826d :=
  zkn_mk E (fun g => List.forall_mem_cons.mpr ⟨zyx825 (o := zwith o g) E, fun _ h => absurd h List.not_mem_nil⟩) (show zget zprog2 259 = some mX8_number from rfl) rfl (by decide) (by decide) (by decide) (by decide) (G := [zyx826q0]) (List.forall_mem_cons.mpr ⟨zyx826_k0 E, fun _ h => absurd h List.not_mem_nil⟩) zyx826e
theorem zyx827e : zrunw zprog2 (zovW [zyx824d, zyx821d, zyx820d, zyx826d, zyx819d]) 100000 (zcutW [] none ((zyx827r, zyh1037), 8, 1020) []) 8 1020 k2X8_thing (zkin zyx827r zyh1037) 0 (zargs 0 zyx827a, [], (zyh1036.1, zyh1036.2.1, 0), 0, 0) = true := zall_ok zyg36_ok (k := 49) (a := zbzyx827e) rfl
theorem zyx827 {l : Launch} {D : va_G} {tys : List (ClassId × FieldType)} {o : zO} {z : Nat} (E : zEnv tys) : zKnW l D vwCl tys o z (zXX o z) zTs zprog2 zyx827d :=
  zkn_mk E (fun g => List.forall_mem_cons.mpr ⟨zyx824 (o := zwith o g) E, List.forall_mem_cons.mpr ⟨zyx821 (o := zwith o g) E, List.forall_mem_cons.mpr ⟨zyx820 (o := zwith o g) E, List.forall_mem_cons.mpr ⟨zyx826 (o := zwith o g) E, List.forall_mem_cons.mpr ⟨zyx819 (o := zwith o g) E, fun _ h => absurd h List.not_mem_nil⟩⟩⟩⟩⟩) (show zget zprog2 292 = some m2X8_thing from rfl) rfl (by decide) (by decide) (by decide) (by decide) (G := []) (fun _ h => absurd h List.not_mem_nil) zyx827e
theorem zyx828c : zchkX [(94, 15)] zprog2 (zovW [zyx821d, zyx827d]) 100000 k2X8_product [zyx822q] [zyx828q] [zyx828q] = true := zall_ok zyg36_ok (k := 50) (a := zbzyx828c) rfl
theorem zyx828k {l : Launch} {D : va_G} {tys : List (ClassId × FieldType)} {o : zO} {z : Nat} (E : zEnv tys) : zPtOk l D vwCl tys o z (zXX o z) zTs m2X8_product zyx828q := zkn_pt E (fun g => List.forall_mem_cons.mpr ⟨zyx821 (o := zwith o g) E, List.forall_mem_cons.mpr ⟨zyx827 (o := zwith o g) E, fun _ h => absurd h List.not_mem_nil⟩⟩) (show zget zprog2 265 = some m2X8_product from rfl) (List.forall_mem_cons.mpr ⟨zyx822k E, fun _ h => absurd h List.not_mem_nil⟩) zyx828c _ List.mem_cons_self
theorem zyx828e : zrunw zprog2 (zovW [zyx821d, zyx827d]) 100000 (zcutW [(94, 15)] none ((zyx828r, zyh1037), 9, 1140) [zyx828q, zyx822q]) 9 1140 k2X8_product (zkin zyx828r zyh1037) 0 (zargs 0 zyx828a, [], (zyh1036.1, zyh1036.2.1, 0), 0, 0) = true := zall_ok zyg36_ok (k := 51) (a := zbzyx828e) rfl
theorem zyx828 {l : Launch} {D : va_G} {tys : List (ClassId × FieldType)} {o : zO} {z : Nat} (E : zEnv tys) : zKnW l D vwCl tys o z (zXX o z) zTs zprog2 zyx828d :=
  zkn_mk E (fun g => List.forall_mem_cons.mpr ⟨zyx821 (o := zwith o g) E, List.forall_mem_cons.mpr ⟨zyx827 (o := zwith o g) E, fun _ h => absurd h List.not_mem_nil⟩⟩) (show zget zprog2 265 = some m2X8_product from rfl) rfl (by decide) (by decide) (by decide) (by decide) (G := [zyx828q, zyx822q]) (List.forall_mem_cons.mpr ⟨zyx828k E, List.forall_mem_cons.mpr ⟨zyx822k E, fun _ h => absurd h List.not_mem_nil⟩⟩) zyx828e
theorem zyx829c : zchkX [(94, 15)] zprog2 (zovW [zyx822d, zyx828d]) 100000 kX8_sum [zyx823q] [zyx829q] [zyx829q] = true := zall_ok zyg36_ok (k := 52) (a := zbzyx829c) rfl
theorem zyx829k {l : Launch} {D : va_G} {tys : List (ClassId × FieldType)} {o : zO} {z : Nat} (E : zEnv tys) : zPtOk l D vwCl tys o z (zXX o z) zTs mX8_sum zyx829q := zkn_pt E (fun g => List.forall_mem_cons.mpr ⟨zyx822 (o := zwith o g) E, List.forall_mem_cons.mpr ⟨zyx828 (o := zwith o g) E, fun _ h => absurd h List.not_mem_nil⟩⟩) (show zget zprog2 284 = some mX8_sum from rfl) (List.forall_mem_cons.mpr ⟨zyx823k E, fun _ h => absurd h List.not_mem_nil⟩) zyx829c _ List.mem_cons_self
theorem zyx829e : zrunw zprog2 (zovW [zyx822d, zyx828d]) 100000 (zcutW [(94, 15)] none ((zyx829r, zyh1037), 10, 1260) [zyx829q, zyx823q]) 10 1260 kX8_sum (zkin zyx829r zyh1037) 0 (zargs 0 zyx829a, [], (zyh1036.1, zyh1036.2.1, 0), 0, 0) = true := zall_ok zyg36_ok (k := 53) (a := zbzyx829e) rfl
theorem zyx829 {l : Launch} {D : va_G} {tys : List (ClassId × FieldType)} {o : zO} {z : Nat} (E : zEnv tys) : zKnW l D vwCl tys o z (zXX o z) zTs zprog2 zyx829d :=
  zkn_mk E (fun g => List.forall_mem_cons.mpr ⟨zyx822 (o := zwith o g) E, List.forall_mem_cons.mpr ⟨zyx828 (o := zwith o g) E, fun _ h => absurd h List.not_mem_nil⟩⟩) (show zget zprog2 284 = some mX8_sum from rfl) rfl (by decide) (by decide) (by decide) (by decide) (G := [zyx829q, zyx823q]) (List.forall_mem_cons.mpr ⟨zyx829k E, List.forall_mem_cons.mpr ⟨zyx823k E, fun _ h => absurd h List.not_mem_nil⟩⟩) zyx829e
theorem zyx830e : zrunw zprog2 (zovW [zyx823d, zyx829d, zyx819d]) 100000 (zcutW [] none ((zyx830r, zyh1037), 11, 1380) []) 11 1380 kX8_heldBy (zkin zyx830r zyh1037) 0 (zargs 0 zyx830a, [], (zyh1036.1, zyh1036.2.1, 0), 0, 0) = true := zall_ok zyg36_ok (k := 54) (a := zbzyx830e) rfl
theorem zyx830 {l : Launch} {D : va_G} {tys : List (ClassId × FieldType)} {o : zO} {z : Nat} (E : zEnv tys) : zKnW l D vwCl tys o z (zXX o z) zTs zprog2 zyx830d :=
  zkn_mk E (fun g => List.forall_mem_cons.mpr ⟨zyx823 (o := zwith o g) E, List.forall_mem_cons.mpr ⟨zyx829 (o := zwith o g) E, List.forall_mem_cons.mpr ⟨zyx819 (o := zwith o g) E, fun _ h => absurd h List.not_mem_nil⟩⟩⟩) (show zget zprog2 229 = some mX8_heldBy from rfl) rfl (by decide) (by decide) (by decide) (by decide) (G := []) (fun _ h => absurd h List.not_mem_nil) zyx830e
theorem zyx831e : zrunw zprog2 (zovW []) 100000 zcut0 4 480 kX8_oneOf (zkinL zyx831q) 0 (zargs 0 zyx831a, [], (zyh1033.1, zyh1033.2.1, 0), 0, 0) = true := zall_ok zyg36_ok (k := 55) (a := zbzyx831e) rfl
theorem zyx831 {l : Launch} {D : va_G} {tys : List (ClassId × FieldType)} {o : zO} {z : Nat} (E : zEnv tys) : zKnW l D vwCl tys o z (zXX o z) zTs zprog2 zyx831d :=
  zkn_ml E (fun g => fun _ h => absurd h List.not_mem_nil) (show zget zprog2 260 = some mX8_oneOf from rfl) rfl (by decide) (by decide) (by decide) (by decide) zyx831e
theorem zyx832c0 : zchkX [] zprog2 (zovW [zyx831d]) 100000 kX8_number [] [zyx832q0] [zyx832q0] = true := zall_ok zyg36_ok (k := 56) (a := zbzyx832c0) rfl
theorem zyx832_k0 {l : Launch} {D : va_G} {tys : List (ClassId × FieldType)} {o : zO} {z : Nat} (E : zEnv tys) : zPtOk l D vwCl tys o z (zXX o z) zTs mX8_number zyx832q0 := zkn_pt E (fun g => List.forall_mem_cons.mpr ⟨zyx831 (o := zwith o g) E, fun _ h => absurd h List.not_mem_nil⟩) (show zget zprog2 259 = some mX8_number from rfl) (fun _ h => absurd h List.not_mem_nil) zyx832c0 _ (List.mem_of_getElem? (i := 0) rfl)
theorem zyx832e : zrunw zprog2 (zovW [zyx831d]) 100000 (zcutW [] none ((zyx832r, zyh1034), 5, 600) [zyx832q0]) 5 600 kX8_number (zkin zyx832r zyh1034) 0 (zargs 0 zyx832a, [], (zyh1033.1, zyh1033.2.1, 0), 0, 0) = true := zall_ok zyg36_ok (k := 57) (a := zbzyx832e) rfl
theorem zyx832 {l : Launch} {D : va_G} {tys : List (ClassId × FieldType)} {o : zO} {z : Nat} (E : zEnv tys) : zKnW l D vwCl tys o z (zXX o z) zTs zprog2 zyx832d :=
  zkn_mk E (fun g => List.forall_mem_cons.mpr ⟨zyx831 (o := zwith o g) E, fun _ h => absurd h List.not_mem_nil⟩) (show zget zprog2 259 = some mX8_number from rfl) rfl (by decide) (by decide) (by decide) (by decide) (G := [zyx832q0]) (List.forall_mem_cons.mpr ⟨zyx832_k0 E, fun _ h => absurd h List.not_mem_nil⟩) zyx832e
theorem zyx833e : zrunw zprog2 (zovW [zyx830d, zyx827d, zyx819d, zyx832d, zyx818d]) 100000 (zcutW [] none ((zyx833r, zyh1034), 12, 1500) []) 12 1500 k2X8_thing (zkin zyx833r zyh1034) 0 (zargs 0 zyx833a, [], (zyh1033.1, zyh1033.2.1, 0), 0, 0) = true := zall_ok zyg36_ok (k := 58) (a := zbzyx833e) rfl
theorem zyx833 {l : Launch} {D : va_G} {tys : List (ClassId × FieldType)} {o : zO} {z : Nat} (E : zEnv tys) : zKnW l D vwCl tys o z (zXX o z) zTs zprog2 zyx833d :=
  zkn_mk E (fun g => List.forall_mem_cons.mpr ⟨zyx830 (o := zwith o g) E, List.forall_mem_cons.mpr ⟨zyx827 (o := zwith o g) E, List.forall_mem_cons.mpr ⟨zyx819 (o := zwith o g) E, List.forall_mem_cons.mpr ⟨zyx832 (o := zwith o g) E, List.forall_mem_cons.mpr ⟨zyx818 (o := zwith o g) E, fun _ h => absurd h List.not_mem_nil⟩⟩⟩⟩⟩) (show zget zprog2 292 = some m2X8_thing from rfl) rfl (by decide) (by decide) (by decide) (by decide) (G := []) (fun _ h => absurd h List.not_mem_nil) zyx833e
theorem zyx834c : zchkX [(94, 15)] zprog2 (zovW [zyx827d, zyx833d]) 100000 k2X8_product [zyx828q, zyx822q] [zyx834q] [zyx834q] = true := zall_ok zyg36_ok (k := 59) (a := zbzyx834c) rfl
theorem zyx834k {l : Launch} {D : va_G} {tys : List (ClassId × FieldType)} {o : zO} {z : Nat} (E : zEnv tys) : zPtOk l D vwCl tys o z (zXX o z) zTs m2X8_product zyx834q := zkn_pt E (fun g => List.forall_mem_cons.mpr ⟨zyx827 (o := zwith o g) E, List.forall_mem_cons.mpr ⟨zyx833 (o := zwith o g) E, fun _ h => absurd h List.not_mem_nil⟩⟩) (show zget zprog2 265 = some m2X8_product from rfl) (List.forall_mem_cons.mpr ⟨zyx828k E, List.forall_mem_cons.mpr ⟨zyx822k E, fun _ h => absurd h List.not_mem_nil⟩⟩) zyx834c _ List.mem_cons_self
theorem zyx834e : zrunw zprog2 (zovW [zyx827d, zyx833d]) 100000 (zcutW [(94, 15)] none ((zyx834r, zyh1034), 13, 1620) [zyx834q, zyx828q, zyx822q]) 13 1620 k2X8_product (zkin zyx834r zyh1034) 0 (zargs 0 zyx834a, [], (zyh1033.1, zyh1033.2.1, 0), 0, 0) = true := zall_ok zyg36_ok (k := 60) (a := zbzyx834e) rfl
theorem zyx834 {l : Launch} {D : va_G} {tys : List (ClassId × FieldType)} {o : zO} {z : Nat} (E : zEnv tys) : zKnW l D vwCl tys o z (zXX o z) zTs zprog2 zyx834d :=
  zkn_mk E (fun g => List.forall_mem_cons.mpr ⟨zyx827 (o := zwith o g) E, List.forall_mem_cons.mpr ⟨zyx833 (o := zwith o g) E, fun _ h => absurd h List.not_mem_nil⟩⟩) (show zget zprog2 265 = some m2X8_product from rfl) rfl (by decide) (by decide) (by decide) (by decide) (G := [zyx834q, zyx828q, zyx822q]) (List.forall_mem_cons.mpr ⟨zyx834k E, List.forall_mem_cons.mpr ⟨zyx828k E, List.forall_mem_cons.mpr ⟨zyx822k E, fun _ h => absurd h List.not_mem_nil⟩⟩⟩) zyx834e
theorem zyx835c : zchkX [(94, 15)] zprog2 (zovW [zyx828d, zyx834d]) 100000 kX8_sum [zyx829q, zyx823q] [zyx835q] [zyx835q] = true := zall_ok zyg36_ok (k := 61) (a := zbzyx835c) rfl
theorem zyx835k {l : Launch} {D : va_G} {tys : List (ClassId × FieldType)} {o : zO} {z : Nat} (E : zEnv tys) : zPtOk l D vwCl tys o z (zXX o z) zTs mX8_sum zyx835q := zkn_pt E (fun g => List.forall_mem_cons.mpr ⟨zyx828 (o := zwith o g) E, List.forall_mem_cons.mpr ⟨zyx834 (o := zwith o g) E, fun _ h => absurd h List.not_mem_nil⟩⟩) (show zget zprog2 284 = some mX8_sum from rfl) (List.forall_mem_cons.mpr ⟨zyx829k E, List.forall_mem_cons.mpr ⟨zyx823k E, fun _ h => absurd h List.not_mem_nil⟩⟩) zyx835c _ List.mem_cons_self
theorem zyx835e : zrunw zprog2 (zovW [zyx828d, zyx834d]) 100000 (zcutW [(94, 15)] none ((zyx835r, zyh1034), 14, 1740) [zyx835q, zyx829q, zyx823q]) 14 1740 kX8_sum (zkin zyx835r zyh1034) 0 (zargs 0 zyx835a, [], (zyh1033.1, zyh1033.2.1, 0), 0, 0) = true := zall_ok zyg36_ok (k := 62) (a := zbzyx835e) rfl
theorem zyx835 {l : Launch} {D : va_G} {tys : List (ClassId × FieldType)} {o : zO} {z : Nat} (E : zEnv tys) : zKnW l D vwCl tys o z (zXX o z) zTs zprog2 zyx835d :=
  zkn_mk E (fun g => List.forall_mem_cons.mpr ⟨zyx828 (o := zwith o g) E, List.forall_mem_cons.mpr ⟨zyx834 (o := zwith o g) E, fun _ h => absurd h List.not_mem_nil⟩⟩) (show zget zprog2 284 = some mX8_sum from rfl) rfl (by decide) (by decide) (by decide) (by decide) (G := [zyx835q, zyx829q, zyx823q]) (List.forall_mem_cons.mpr ⟨zyx835k E, List.forall_mem_cons.mpr ⟨zyx829k E, List.forall_mem_cons.mpr ⟨zyx823k E, fun _ h => absurd h List.not_mem_nil⟩⟩⟩) zyx835e
theorem zyx836e : zrunw zprog2 (zovW [zyx829d, zyx835d, zyx818d]) 100000 (zcutW [] none ((zyx836r, zyh1034), 15, 1860) []) 15 1860 kX8_heldBy (zkin zyx836r zyh1034) 0 (zargs 0 zyx836a, [], (zyh1033.1, zyh1033.2.1, 0), 0, 0) = true := zall_ok zyg36_ok (k := 63) (a := zbzyx836e) rfl
theorem zyx836 {l : Launch} {D : va_G} {tys : List (ClassId × FieldType)} {o : zO} {z : Nat} (E : zEnv tys) : zKnW l D vwCl tys o z (zXX o z) zTs zprog2 zyx836d :=
  zkn_mk E (fun g => List.forall_mem_cons.mpr ⟨zyx829 (o := zwith o g) E, List.forall_mem_cons.mpr ⟨zyx835 (o := zwith o g) E, List.forall_mem_cons.mpr ⟨zyx818 (o := zwith o g) E, fun _ h => absurd h List.not_mem_nil⟩⟩⟩) (show zget zprog2 229 = some mX8_heldBy from rfl) rfl (by decide) (by decide) (by decide) (by decide) (G := []) (fun _ h => absurd h List.not_mem_nil) zyx836e
theorem zyx837e : zrunw zprog2 (zovW []) 100000 zcut0 4 480 kX8_oneOf (zkinL zyx837q) 0 (zargs 0 zyx837a, [], (zyh1030.1, zyh1030.2.1, 0), 0, 0) = true := zall_ok zyg36_ok (k := 64) (a := zbzyx837e) rfl
theorem zyx837 {l : Launch} {D : va_G} {tys : List (ClassId × FieldType)} {o : zO} {z : Nat} (E : zEnv tys) : zKnW l D vwCl tys o z (zXX o z) zTs zprog2 zyx837d :=
  zkn_ml E (fun g => fun _ h => absurd h List.not_mem_nil) (show zget zprog2 260 = some mX8_oneOf from rfl) rfl (by decide) (by decide) (by decide) (by decide) zyx837e
theorem zyx838c0 : zchkX [] zprog2 (zovW [zyx837d]) 100000 kX8_number [] [zyx838q0] [zyx838q0] = true := zall_ok zyg36_ok (k := 65) (a := zbzyx838c0) rfl
theorem zyx838_k0 {l : Launch} {D : va_G} {tys : List (ClassId × FieldType)} {o : zO} {z : Nat} (E : zEnv tys) : zPtOk l D vwCl tys o z (zXX o z) zTs mX8_number zyx838q0 := zkn_pt E (fun g => List.forall_mem_cons.mpr ⟨zyx837 (o := zwith o g) E, fun _ h => absurd h List.not_mem_nil⟩) (show zget zprog2 259 = some mX8_number from rfl) (fun _ h => absurd h List.not_mem_nil) zyx838c0 _ (List.mem_of_getElem? (i := 0) rfl)
theorem zyx838e : zrunw zprog2 (zovW [zyx837d]) 100000 (zcutW [] none ((zyx838r, zyh1031), 5, 600) [zyx838q0]) 5 600 kX8_number (zkin zyx838r zyh1031) 0 (zargs 0 zyx838a, [], (zyh1030.1, zyh1030.2.1, 0), 0, 0) = true := zall_ok zyg36_ok (k := 66) (a := zbzyx838e) rfl
theorem zyx838 {l : Launch} {D : va_G} {tys : List (ClassId × FieldType)} {o : zO} {z : Nat} (E : zEnv tys) : zKnW l D vwCl tys o z (zXX o z) zTs zprog2 zyx838d :=
  zkn_mk E (fun g => List.forall_mem_cons.mpr ⟨zyx837 (o := zwith o g) E, fun _ h => absurd h List.not_mem_nil⟩) (show zget zprog2 259 = some mX8_number from rfl) rfl (by decide) (by decide) (by decide) (by decide) (G := [zyx838q0]) (List.forall_mem_cons.mpr ⟨zyx838_k0 E, fun _ h => absurd h List.not_mem_nil⟩) zyx838e
theorem zyx839e : zrunw zprog2 (zovW [zyx836d, zyx833d, zyx818d, zyx838d, zyx817d]) 100000 (zcutW [] none ((zyx839r, zyh1031), 16, 1980) []) 16 1980 k2X8_thing (zkin zyx839r zyh1031) 0 (zargs 0 zyx839a, [], (zyh1030.1, zyh1030.2.1, 0), 0, 0) = true := zall_ok zyg36_ok (k := 67) (a := zbzyx839e) rfl
theorem zyx839 {l : Launch} {D : va_G} {tys : List (ClassId × FieldType)} {o : zO} {z : Nat} (E : zEnv tys) : zKnW l D vwCl tys o z (zXX o z) zTs zprog2 zyx839d :=
  zkn_mk E (fun g => List.forall_mem_cons.mpr ⟨zyx836 (o := zwith o g) E, List.forall_mem_cons.mpr ⟨zyx833 (o := zwith o g) E, List.forall_mem_cons.mpr ⟨zyx818 (o := zwith o g) E, List.forall_mem_cons.mpr ⟨zyx838 (o := zwith o g) E, List.forall_mem_cons.mpr ⟨zyx817 (o := zwith o g) E, fun _ h => absurd h List.not_mem_nil⟩⟩⟩⟩⟩) (show zget zprog2 292 = some m2X8_thing from rfl) rfl (by decide) (by decide) (by decide) (by decide) (G := []) (fun _ h => absurd h List.not_mem_nil) zyx839e
theorem zyx840c : zchkX [(94, 15)] zprog2 (zovW [zyx833d, zyx839d]) 100000 k2X8_product [zyx834q, zyx828q, zyx822q] [zyx840q] [zyx840q] = true := zall_ok zyg36_ok (k := 68) (a := zbzyx840c) rfl
theorem zyx840k {l : Launch} {D : va_G} {tys : List (ClassId × FieldType)} {o : zO} {z : Nat} (E : zEnv tys) : zPtOk l D vwCl tys o z (zXX o z) zTs m2X8_product zyx840q := zkn_pt E (fun g => List.forall_mem_cons.mpr ⟨zyx833 (o := zwith o g) E, List.forall_mem_cons.mpr ⟨zyx839 (o := zwith o g) E, fun _ h => absurd h List.not_mem_nil⟩⟩) (show zget zprog2 265 = some m2X8_product from rfl) (List.forall_mem_cons.mpr ⟨zyx834k E, List.forall_mem_cons.mpr ⟨zyx828k E, List.forall_mem_cons.mpr ⟨zyx822k E, fun _ h => absurd h List.not_mem_nil⟩⟩⟩) zyx840c _ List.mem_cons_self
theorem zyx840e : zrunw zprog2 (zovW [zyx833d, zyx839d]) 100000 (zcutW [(94, 15)] none ((zyx840r, zyh1031), 17, 2100) [zyx840q, zyx834q, zyx828q, zyx822q]) 17 2100 k2X8_product (zkin zyx840r zyh1031) 0 (zargs 0 zyx840a, [], (zyh1030.1, zyh1030.2.1, 0), 0, 0) = true := zall_ok zyg36_ok (k := 69) (a := zbzyx840e) rfl
theorem zyx840 {l : Launch} {D : va_G} {tys : List (ClassId × FieldType)} {o : zO} {z : Nat} (E : zEnv tys) : zKnW l D vwCl tys o z (zXX o z) zTs zprog2 zyx840d :=
  zkn_mk E (fun g => List.forall_mem_cons.mpr ⟨zyx833 (o := zwith o g) E, List.forall_mem_cons.mpr ⟨zyx839 (o := zwith o g) E, fun _ h => absurd h List.not_mem_nil⟩⟩) (show zget zprog2 265 = some m2X8_product from rfl) rfl (by decide) (by decide) (by decide) (by decide) (G := [zyx840q, zyx834q, zyx828q, zyx822q]) (List.forall_mem_cons.mpr ⟨zyx840k E, List.forall_mem_cons.mpr ⟨zyx834k E, List.forall_mem_cons.mpr ⟨zyx828k E, List.forall_mem_cons.mpr ⟨zyx822k E, fun _ h => absurd h List.not_mem_nil⟩⟩⟩⟩) zyx840e

