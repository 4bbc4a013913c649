noncomputable def zyc854 : zC := .inr (8, [zyv114, zyv15, zyv15, zyv15, zyv114, zyv114, zyv114, zyv114, zyv15, zyv114, zyv15, zyv15, zyv127, zyv17, zyv317, zyv35, zyv124, zyv114, zyv114, zyv114, zyv15, zyv36, zyv129, zyv114, zyv15, zyv114, zyv114, zyv15, zyv15, zyv114, zyv114, zyv114, zyv114, zyv114, zyv114, zyv114, zyv114, zyv114, zyv114, zyv15, zyv114, zyv114, zyv114, zyv114, zyv15, zyv15, zyv15, zyv15, zyv114, zyv114, zyv114])
noncomputable def zyr780 : List zC := [zyc60, zyc60, zyc60, zyc69, zyc10, zyc10, zyc10, zyc12, zyc70, zyc8, zyc8, zyc70, zyc8, zyc8, zyc854, zyc52]
noncomputable def zyh1944 : zH := (126, [zyr9, zyr10, zyr11, zyr12, zyr13, zyr780, zyr6, zyr7], 0)
noncomputable def zyh1945 : zH := (126, [zyr9, zyr10, zyr11, zyr12, zyr13, zyr780, zyr6, zyr7], zym9)
noncomputable def zyc855 : zC := .inr (8, [zyv114, zyv15, zyv15, zyv15, zyv114, zyv114, zyv114, zyv114, zyv15, zyv114, zyv15, zyv15, zyv127, zyv17, zyv317, zyv320, zyv241, zyv114, zyv114, zyv114, zyv15, zyv36, zyv129, zyv114, zyv15, zyv114, zyv114, zyv15, zyv15, zyv114, zyv114, zyv114, zyv114, zyv114, zyv114, zyv114, zyv114, zyv114, zyv114, zyv15, zyv114, zyv114, zyv114, zyv114, zyv15, zyv15, zyv15, zyv15, zyv114, zyv114, zyv114])
noncomputable def zyr781 : List zC := [zyc60, zyc60, zyc60, zyc69, zyc10, zyc10, zyc10, zyc12, zyc70, zyc8, zyc8, zyc70, zyc8, zyc8, zyc855, zyc52]
noncomputable def zyh1946 : zH := (126, [zyr9, zyr10, zyr11, zyr12, zyr13, zyr781, zyr6, zyr7], zym9)
noncomputable def zyc856 : zC := .inr (8, [zyv114, zyv15, zyv15, zyv15, zyv114, zyv114, zyv114, zyv114, zyv15, zyv114, zyv15, zyv15, zyv127, zyv17, zyv317, zyv320, zyv124, zyv114, zyv114, zyv114, zyv15, zyv36, zyv129, zyv114, zyv15, zyv114, zyv114, zyv15, zyv15, zyv114, zyv114, zyv114, zyv114, zyv114, zyv114, zyv114, zyv114, zyv114, zyv114, zyv15, zyv114, zyv114, zyv114, zyv114, zyv15, zyv15, zyv15, zyv15, zyv114, zyv114, zyv114])
noncomputable def zyr782 : List zC := [zyc60, zyc60, zyc60, zyc69, zyc10, zyc10, zyc10, zyc12, zyc70, zyc8, zyc8, zyc70, zyc8, zyc8, zyc856, zyc52]
noncomputable def zyh1947 : zH := (126, [zyr9, zyr10, zyr11, zyr12, zyr13, zyr782, zyr6, zyr7], 0)
noncomputable def zyh1948 : zH := (126, [zyr9, zyr10, zyr11, zyr12, zyr13, zyr782, zyr6, zyr7], zym9)
noncomputable def zyc857 : zC := .inr (8, [zyv114, zyv15, zyv15, zyv15, zyv114, zyv114, zyv114, zyv114, zyv15, zyv114, zyv15, zyv15, zyv127, zyv17, zyv317, zyv322, zyv241, zyv114, zyv114, zyv114, zyv15, zyv36, zyv129, zyv114, zyv15, zyv114, zyv114, zyv15, zyv15, zyv114, zyv114, zyv114, zyv114, zyv114, zyv114, zyv114, zyv114, zyv114, zyv114, zyv15, zyv114, zyv114, zyv114, zyv114, zyv15, zyv15, zyv15, zyv15, zyv114, zyv114, zyv114])
noncomputable def zyr783 : List zC := [zyc60, zyc60, zyc60, zyc69, zyc10, zyc10, zyc10, zyc12, zyc70, zyc8, zyc8, zyc70, zyc8, zyc8, zyc857, zyc52]
noncomputable def zyh1949 : zH := (126, [zyr9, zyr10, zyr11, zyr12, zyr13, zyr783, zyr6, zyr7], zym9)
noncomputable def zyc858 : zC := .inr (8, [zyv114, zyv15, zyv15, zyv15, zyv114, zyv114, zyv114, zyv114, zyv15, zyv114, zyv15, zyv15, zyv127, zyv17, zyv317, zyv322, zyv124, zyv114, zyv114, zyv114, zyv15, zyv36, zyv129, zyv114, zyv15, zyv114, zyv114, zyv15, zyv15, zyv114, zyv114, zyv114, zyv114, zyv114, zyv114, zyv114, zyv114, zyv114, zyv114, zyv15, zyv114, zyv114, zyv114, zyv114, zyv15, zyv15, zyv15, zyv15, zyv114, zyv114, zyv114])
noncomputable def zyr784 : List zC := [zyc60, zyc60, zyc60, zyc69, zyc10, zyc10, zyc10, zyc12, zyc70, zyc8, zyc8, zyc70, zyc8, zyc8, zyc858, zyc52]
noncomputable def zyh1950 : zH := (126, [zyr9, zyr10, zyr11, zyr12, zyr13, zyr784, zyr6, zyr7], 0)
noncomputable def zyh1951 : zH := (126, [zyr9, zyr10, zyr11, zyr12, zyr13, zyr784, zyr6, zyr7], zym9)
noncomputable def zyc859 : zC := .inr (8, [zyv114, zyv15, zyv15, zyv15, zyv114, zyv114, zyv114, zyv114, zyv15, zyv114, zyv15, zyv15, zyv127, zyv17, zyv317, zyv323, zyv241, zyv114, zyv114, zyv114, zyv15, zyv36, zyv129, zyv114, zyv15, zyv114, zyv114, zyv15, zyv15, zyv114, zyv114, zyv114, zyv114, zyv114, zyv114, zyv114, zyv114, zyv114, zyv114, zyv15, zyv114, zyv114, zyv114, zyv114, zyv15, zyv15, zyv15, zyv15, zyv114, zyv114, zyv114])
noncomputable def zyr785 : List zC := [zyc60, zyc60, zyc60, zyc69, zyc10, zyc10, zyc10, zyc12, zyc70, zyc8, zyc8, zyc70, zyc8, zyc8, zyc859, zyc52]
noncomputable def zyh1952 : zH := (126, [zyr9, zyr10, zyr11, zyr12, zyr13, zyr785, zyr6, zyr7], zym9)
noncomputable def zyc860 : zC := .inr (8, [zyv114, zyv15, zyv15, zyv15, zyv114, zyv114, zyv114, zyv114, zyv15, zyv114, zyv15, zyv15, zyv127, zyv17, zyv317, zyv323, zyv124, zyv114, zyv114, zyv114, zyv15, zyv36, zyv129, zyv114, zyv15, zyv114, zyv114, zyv15, zyv15, zyv114, zyv114, zyv114, zyv114, zyv114, zyv114, zyv114, zyv114, zyv114, zyv114, zyv15, zyv114, zyv114, zyv114, zyv114, zyv15, zyv15, zyv15, zyv15, zyv114, zyv114, zyv114])
noncomputable def zyr786 : List zC := [zyc60, zyc60, zyc60, zyc69, zyc10, zyc10, zyc10, zyc12, zyc70, zyc8, zyc8, zyc70, zyc8, zyc8, zyc860, zyc52]
noncomputable def zyh1953 : zH := (126, [zyr9, zyr10, zyr11, zyr12, zyr13, zyr786, zyr6, zyr7], 0)
noncomputable def zyh1954 : zH := (126, [zyr9, zyr10, zyr11, zyr12, zyr13, zyr786, zyr6, zyr7], zym9)
noncomputable def zyc861 : zC := .inr (8, [zyv114, zyv15, zyv15, zyv15, zyv114, zyv114, zyv114, zyv114, zyv15, zyv114, zyv15, zyv15, zyv127, zyv17, zyv317, zyv324, zyv241, zyv114, zyv114, zyv114, zyv15, zyv36, zyv129, zyv114, zyv15, zyv114, zyv114, zyv15, zyv15, zyv114, zyv114, zyv114, zyv114, zyv114, zyv114, zyv114, zyv114, zyv114, zyv114, zyv15, zyv114, zyv114, zyv114, zyv114, zyv15, zyv15, zyv15, zyv15, zyv114, zyv114, zyv114])
noncomputable def zyr787 : List zC := [zyc60, zyc60, zyc60, zyc69, zyc10, zyc10, zyc10, zyc12, zyc70, zyc8, zyc8, zyc70, zyc8, zyc8, zyc861, zyc52]
noncomputable def zyh1955 : zH := (126, [zyr9, zyr10, zyr11, zyr12, zyr13, zyr787, zyr6, zyr7], zym9)
noncomputable def zyc862 : zC := .inr (8, [zyv114, zyv15, zyv15, zyv15, zyv114, zyv114, zyv114, zyv114, zyv15, zyv114, zyv15, zyv15, zyv127, zyv17, zyv317, zyv324, zyv124, zyv114, zyv114, zyv114, zyv15, zyv36, zyv129, zyv114, zyv15, zyv114, zyv114, zyv15, zyv15, zyv114, zyv114, zyv114, zyv114, zyv114, zyv114, zyv114, zyv114, zyv114, zyv114, zyv15, zyv114, zyv114, zyv114, zyv114, zyv15, zyv15, zyv15, zyv15, zyv114, zyv114, zyv114])
noncomputable def zyr788 : List zC := [zyc60, zyc60, zyc60, zyc69, zyc10, zyc10, zyc10, zyc12, zyc70, zyc8, zyc8, zyc70, zyc8, zyc8, zyc862, zyc52]
noncomputable def zyh1956 : zH := (126, [zyr9, zyr10, zyr11, zyr12, zyr13, zyr788, zyr6, zyr7], 0)
noncomputable def zyh1957 : zH := (126, [zyr9, zyr10, zyr11, zyr12, zyr13, zyr788, zyr6, zyr7], zym9)
noncomputable def zyc863 : zC := .inr (8, [zyv114, zyv15, zyv15, zyv15, zyv114, zyv114, zyv114, zyv114, zyv15, zyv114, zyv15, zyv15, zyv127, zyv17, zyv317, zyv325, zyv241, zyv114, zyv114, zyv114, zyv15, zyv36, zyv129, zyv114, zyv15, zyv114, zyv114, zyv15, zyv15, zyv114, zyv114, zyv114, zyv114, zyv114, zyv114, zyv114, zyv114, zyv114, zyv114, zyv15, zyv114, zyv114, zyv114, zyv114, zyv15, zyv15, zyv15, zyv15, zyv114, zyv114, zyv114])
noncomputable def zyr789 : List zC := [zyc60, zyc60, zyc60, zyc69, zyc10, zyc10, zyc10, zyc12, zyc70, zyc8, zyc8, zyc70, zyc8, zyc8, zyc863, zyc52]
noncomputable def zyh1958 : zH := (126, [zyr9, zyr10, zyr11, zyr12, zyr13, zyr789, zyr6, zyr7], zym9)
noncomputable def zyc864 : zC := .inr (8, [zyv114, zyv15, zyv15, zyv15, zyv114, zyv114, zyv114, zyv114, zyv15, zyv114, zyv15, zyv15, zyv127, zyv17, zyv317, zyv325, zyv124, zyv114, zyv114, zyv114, zyv15, zyv36, zyv129, zyv114, zyv15, zyv114, zyv114, zyv15, zyv15, zyv114, zyv114, zyv114, zyv114, zyv114, zyv114, zyv114, zyv114, zyv114, zyv114, zyv15, zyv114, zyv114, zyv114, zyv114, zyv15, zyv15, zyv15, zyv15, zyv114, zyv114, zyv114])
noncomputable def zyr790 : List zC := [zyc60, zyc60, zyc60, zyc69, zyc10, zyc10, zyc10, zyc12, zyc70, zyc8, zyc8, zyc70, zyc8, zyc8, zyc864, zyc52]
noncomputable def zyh1959 : zH := (126, [zyr9, zyr10, zyr11, zyr12, zyr13, zyr790, zyr6, zyr7], 0)
noncomputable def zyh1960 : zH := (126, [zyr9, zyr10, zyr11, zyr12, zyr13, zyr790, zyr6, zyr7], zym9)
noncomputable def zyc865 : zC := .inr (8, [zyv114, zyv15, zyv15, zyv15, zyv114, zyv114, zyv114, zyv114, zyv15, zyv114, zyv15, zyv15, zyv127, zyv17, zyv317, zyv326, zyv241, zyv114, zyv114, zyv114, zyv15, zyv36, zyv129, zyv114, zyv15, zyv114, zyv114, zyv15, zyv15, zyv114, zyv114, zyv114, zyv114, zyv114, zyv114, zyv114, zyv114, zyv114, zyv114, zyv15, zyv114, zyv114, zyv114, zyv114, zyv15, zyv15, zyv15, zyv15, zyv114, zyv114, zyv114])
noncomputable def zyr791 : List zC := [zyc60, zyc60, zyc60, zyc69, zyc10, zyc10, zyc10, zyc12, zyc70, zyc8, zyc8, zyc70, zyc8, zyc8, zyc865, zyc52]
noncomputable def zyh1961 : zH := (126, [zyr9, zyr10, zyr11, zyr12, zyr13, zyr791, zyr6, zyr7], zym9)
noncomputable def zyc866 : zC := .inr (8, [zyv114, zyv15, zyv15, zyv15, zyv114, zyv114, zyv114, zyv114, zyv15, zyv114, zyv15, zyv15, zyv127, zyv17, zyv317, zyv326, zyv124, zyv114, zyv114, zyv114, zyv15, zyv36, zyv129, zyv114, zyv15, zyv114, zyv114, zyv15, zyv15, zyv114, zyv114, zyv114, zyv114, zyv114, zyv114, zyv114, zyv114, zyv114, zyv114, zyv15, zyv114, zyv114, zyv114, zyv114, zyv15, zyv15, zyv15, zyv15, zyv114, zyv114, zyv114])
noncomputable def zyr792 : List zC := [zyc60, zyc60, zyc60, zyc69, zyc10, zyc10, zyc10, zyc12, zyc70, zyc8, zyc8, zyc70, zyc8, zyc8, zyc866, zyc52]
noncomputable def zyh1962 : zH := (126, [zyr9, zyr10, zyr11, zyr12, zyr13, zyr792, zyr6, zyr7], 0)
noncomputable def zyh1963 : zH := (126, [zyr9, zyr10, zyr11, zyr12, zyr13, zyr792, zyr6, zyr7], zym9)
noncomputable def zyc867 : zC := .inr (8, [zyv114, zyv15, zyv15, zyv15, zyv114, zyv114, zyv114, zyv114, zyv15, zyv114, zyv15, zyv15, zyv127, zyv17, zyv317, zyv327, zyv241, zyv114, zyv114, zyv114, zyv15, zyv36, zyv129, zyv114, zyv15, zyv114, zyv114, zyv15, zyv15, zyv114, zyv114, zyv114, zyv114, zyv114, zyv114, zyv114, zyv114, zyv114, zyv114, zyv15, zyv114, zyv114, zyv114, zyv114, zyv15, zyv15, zyv15, zyv15, zyv114, zyv114, zyv114])
noncomputable def zyr793 : List zC := [zyc60, zyc60, zyc60, zyc69, zyc10, zyc10, zyc10, zyc12, zyc70, zyc8, zyc8, zyc70, zyc8, zyc8, zyc867, zyc52]
noncomputable def zyh1964 : zH := (126, [zyr9, zyr10, zyr11, zyr12, zyr13, zyr793, zyr6, zyr7], zym9)
noncomputable def zyc868 : zC := .inr (8, [zyv114, zyv15, zyv15, zyv15, zyv114, zyv114, zyv114, zyv114, zyv15, zyv114, zyv15, zyv15, zyv127, zyv17, zyv317, zyv327, zyv124, zyv114, zyv114, zyv114, zyv15, zyv36, zyv129, zyv114, zyv15, zyv114, zyv114, zyv15, zyv15, zyv114, zyv114, zyv114, zyv114, zyv114, zyv114, zyv114, zyv114, zyv114, zyv114, zyv15, zyv114, zyv114, zyv114, zyv114, zyv15, zyv15, zyv15, zyv15, zyv114, zyv114, zyv114])
noncomputable def zyr794 : List zC := [zyc60, zyc60, zyc60, zyc69, zyc10, zyc10, zyc10, zyc12, zyc70, zyc8, zyc8, zyc70, zyc8, zyc8, zyc868, zyc52]
noncomputable def zyh1965 : zH := (126, [zyr9, zyr10, zyr11, zyr12, zyr13, zyr794, zyr6, zyr7], 0)
noncomputable def zyh1966 : zH := (126, [zyr9, zyr10, zyr11, zyr12, zyr13, zyr794, zyr6, zyr7], zym9)
noncomputable def zyc869 : zC := .inr (8, [zyv114, zyv15, zyv15, zyv15, zyv114, zyv114, zyv114, zyv114, zyv15, zyv114, zyv15, zyv15, zyv127, zyv17, zyv317, zyv328, zyv241, zyv114, zyv114, zyv114, zyv15, zyv36, zyv129, zyv114, zyv15, zyv114, zyv114, zyv15, zyv15, zyv114, zyv114, zyv114, zyv114, zyv114, zyv114, zyv114, zyv114, zyv114, zyv114, zyv15, zyv114, zyv114, zyv114, zyv114, zyv15, zyv15, zyv15, zyv15, zyv114, zyv114, zyv114])
noncomputable def zyr795 : List zC := [zyc60, zyc60, zyc60, zyc69, zyc10, zyc10, zyc10, zyc12, zyc70, zyc8, zyc8, zyc70, zyc8, zyc8, zyc869, zyc52]
noncomputable def zyh1967 : zH := (126, [zyr9, zyr10, zyr11, zyr12, zyr13, zyr795, zyr6, zyr7], zym9)
noncomputable def zyc870 : zC := .inr (8, [zyv114, zyv15, zyv15, zyv15, zyv114, zyv114, zyv114, zyv114, zyv15, zyv114, zyv15, zyv15, zyv127, zyv17, zyv317, zyv328, zyv124, zyv114, zyv114, zyv114, zyv15, zyv36, zyv129, zyv114, zyv15, zyv114, zyv114, zyv15, zyv15, zyv114, zyv114, zyv114, zyv114, zyv114, zyv114, zyv114, zyv114, zyv114, zyv114, zyv15, zyv114, zyv114, zyv114, zyv114, zyv15, zyv15, zyv15, zyv15, zyv114, zyv114, zyv114])
noncomputable def zyr796 : List zC := [zyc60, zyc60, zyc60, zyc69, zyc10, zyc10, zyc10, zyc12, zyc70, zyc8, zyc8, zyc70, zyc8, zyc8, zyc870, zyc52]
noncomputable def zyh1968 : zH := (126, [zyr9, zyr10, zyr11, zyr12, zyr13, zyr796, zyr6, zyr7], 0)
noncomputable def zyh1969 : zH := (126, [zyr9, zyr10, zyr11, zyr12, zyr13, zyr796, zyr6, zyr7], zym9)
noncomputable def zyc871 : zC := .inr (8, [zyv114, zyv15, zyv15, zyv15, zyv114, zyv114, zyv114, zyv114, zyv15, zyv114, zyv15, zyv15, zyv127, zyv17, zyv317, zyv329, zyv241, zyv114, zyv114, zyv114, zyv15, zyv36, zyv129, zyv114, zyv15, zyv114, zyv114, zyv15, zyv15, zyv114, zyv114, zyv114, zyv114, zyv114, zyv114, zyv114, zyv114, zyv114, zyv114, zyv15, zyv114, zyv114, zyv114, zyv114, zyv15, zyv15, zyv15, zyv15, zyv114, zyv114, zyv114])
noncomputable def zyr797 : List zC := [zyc60, zyc60, zyc60, zyc69, zyc10, zyc10, zyc10, zyc12, zyc70, zyc8, zyc8, zyc70, zyc8, zyc8, zyc871, zyc52]
noncomputable def zyh1970 : zH := (126, [zyr9, zyr10, zyr11, zyr12, zyr13, zyr797, zyr6, zyr7], zym9)
noncomputable def zyc872 : zC := .inr (8, [zyv114, zyv15, zyv15, zyv15, zyv114, zyv114, zyv114, zyv114, zyv15, zyv114, zyv15, zyv15, zyv127, zyv17, zyv317, zyv329, zyv124, zyv114, zyv114, zyv114, zyv15, zyv36, zyv129, zyv114, zyv15, zyv114, zyv114, zyv15, zyv15, zyv114, zyv114, zyv114, zyv114, zyv114, zyv114, zyv114, zyv114, zyv114, zyv114, zyv15, zyv114, zyv114, zyv114, zyv114, zyv15, zyv15, zyv15, zyv15, zyv114, zyv114, zyv114])
noncomputable def zyr798 : List zC := [zyc60, zyc60, zyc60, zyc69, zyc10, zyc10, zyc10, zyc12, zyc70, zyc8, zyc8, zyc70, zyc8, zyc8, zyc872, zyc52]
noncomputable def zyh1971 : zH := (126, [zyr9, zyr10, zyr11, zyr12, zyr13, zyr798, zyr6, zyr7], 0)
noncomputable def zyh1972 : zH := (126, [zyr9, zyr10, zyr11, zyr12, zyr13, zyr798, zyr6, zyr7], zym9)
noncomputable def zyc873 : zC := .inr (8, [zyv114, zyv15, zyv15, zyv15, zyv114, zyv114, zyv114, zyv114, zyv15, zyv114, zyv15, zyv15, zyv127, zyv17, zyv317, zyv330, zyv241, zyv114, zyv114, zyv114, zyv15, zyv36, zyv129, zyv114, zyv15, zyv114, zyv114, zyv15, zyv15, zyv114, zyv114, zyv114, zyv114, zyv114, zyv114, zyv114, zyv114, zyv114, zyv114, zyv15, zyv114, zyv114, zyv114, zyv114, zyv15, zyv15, zyv15, zyv15, zyv114, zyv114, zyv114])
noncomputable def zyr799 : List zC := [zyc60, zyc60, zyc60, zyc69, zyc10, zyc10, zyc10, zyc12, zyc70, zyc8, zyc8, zyc70, zyc8, zyc8, zyc873, zyc52]
noncomputable def zyh1973 : zH := (126, [zyr9, zyr10, zyr11, zyr12, zyr13, zyr799, zyr6, zyr7], zym9)
noncomputable def zyc874 : zC := .inr (8, [zyv114, zyv15, zyv15, zyv15, zyv114, zyv114, zyv114, zyv114, zyv15, zyv114, zyv15, zyv15, zyv127, zyv17, zyv317, zyv331, zyv124, zyv114, zyv114, zyv114, zyv15, zyv36, zyv129, zyv114, zyv15, zyv114, zyv114, zyv15, zyv15, zyv114, zyv114, zyv114, zyv114, zyv114, zyv114, zyv114, zyv114, zyv114, zyv114, zyv15, zyv114, zyv114, zyv114, zyv114, zyv15, zyv15, zyv15, zyv15, zyv114, zyv114, zyv114])
noncomputable def zyr800 : List zC := [zyc60, zyc60, zyc60, zyc69, zyc10, zyc10, zyc10, zyc12, zyc70, zyc8, zyc8, zyc70, zyc8, zyc8, zyc874, zyc52]
noncomputable def zyh1974 : zH := (126, [zyr9, zyr10, zyr11, zyr12, zyr13, zyr800, zyr6, zyr7], 0)
noncomputable def zyh1975 : zH := (126, [zyr9, zyr10, zyr11, zyr12, zyr13, zyr800, zyr6, zyr7], zym9)
noncomputable def zyc875 : zC := .inr (8, [zyv114, zyv15, zyv15, zyv15, zyv114, zyv114, zyv114, zyv114, zyv15, zyv114, zyv15, zyv15, zyv127, zyv17, zyv317, zyv332, zyv241, zyv114, zyv114, zyv114, zyv15, zyv36, zyv129, zyv114, zyv15, zyv114, zyv114, zyv15, zyv15, zyv114, zyv114, zyv114, zyv114, zyv114, zyv114, zyv114, zyv114, zyv114, zyv114, zyv15, zyv114, zyv114, zyv114, zyv114, zyv15, zyv15, zyv15, zyv15, zyv114, zyv114, zyv114])
noncomputable def zyr801 : List zC := [zyc60, zyc60, zyc60, zyc69, zyc10, zyc10, zyc10, zyc12, zyc70, zyc8, zyc8, zyc70, zyc8, zyc8, zyc875, zyc52]
noncomputable def zyh1976 : zH := (126, [zyr9, zyr10, zyr11, zyr12, zyr13, zyr801, zyr6, zyr7], zym9)
noncomputable def zyc876 : zC := .inr (8, [zyv114, zyv15, zyv15, zyv15, zyv114, zyv114, zyv114, zyv114, zyv15, zyv114, zyv15, zyv15, zyv127, zyv17, zyv317, zyv332, zyv124, zyv114, zyv114, zyv114, zyv15, zyv36, zyv129, zyv114, zyv15, zyv114, zyv114, zyv15, zyv15, zyv114, zyv114, zyv114, zyv114, zyv114, zyv114, zyv114, zyv114, zyv114, zyv114, zyv15, zyv114, zyv114, zyv114, zyv114, zyv15, zyv15, zyv15, zyv15, zyv114, zyv114, zyv114])
noncomputable def zyr802 : List zC := [zyc60, zyc60, zyc60, zyc69, zyc10, zyc10, zyc10, zyc12, zyc70, zyc8, zyc8, zyc70, zyc8, zyc8, zyc876, zyc52]
noncomputable def zyh1977 : zH := (126, [zyr9, zyr10, zyr11, zyr12, zyr13, zyr802, zyr6, zyr7], 0)
noncomputable def zyh1978 : zH := (126, [zyr9, zyr10, zyr11, zyr12, zyr13, zyr802, zyr6, zyr7], zym9)
noncomputable def zyc877 : zC := .inr (8, [zyv114, zyv15, zyv15, zyv15, zyv114, zyv114, zyv114, zyv114, zyv15, zyv114, zyv15, zyv15, zyv127, zyv17, zyv317, zyv333, zyv241, zyv114, zyv114, zyv114, zyv15, zyv36, zyv129, zyv114, zyv15, zyv114, zyv114, zyv15, zyv15, zyv114, zyv114, zyv114, zyv114, zyv114, zyv114, zyv114, zyv114, zyv114, zyv114, zyv15, zyv114, zyv114, zyv114, zyv114, zyv15, zyv15, zyv15, zyv15, zyv114, zyv114, zyv114])
noncomputable def zyr803 : List zC := [zyc60, zyc60, zyc60, zyc69, zyc10, zyc10, zyc10, zyc12, zyc70, zyc8, zyc8, zyc70, zyc8, zyc8, zyc877, zyc52]
noncomputable def zyh1979 : zH := (126, [zyr9, zyr10, zyr11, zyr12, zyr13, zyr803, zyr6, zyr7], zym9)
noncomputable def zyc878 : zC := .inr (8, [zyv114, zyv15, zyv15, zyv15, zyv114, zyv114, zyv114, zyv114, zyv15, zyv114, zyv15, zyv15, zyv127, zyv17, zyv317, zyv333, zyv124, zyv114, zyv114, zyv114, zyv15, zyv36, zyv129, zyv114, zyv15, zyv114, zyv114, zyv15, zyv15, zyv114, zyv114, zyv114, zyv114, zyv114, zyv114, zyv114, zyv114, zyv114, zyv114, zyv15, zyv114, zyv114, zyv114, zyv114, zyv15, zyv15, zyv15, zyv15, zyv114, zyv114, zyv114])
noncomputable def zyr804 : List zC := [zyc60, zyc60, zyc60, zyc69, zyc10, zyc10, zyc10, zyc12, zyc70, zyc8, zyc8, zyc70, zyc8, zyc8, zyc878, zyc52]
noncomputable def zyh1980 : zH := (126, [zyr9, zyr10, zyr11, zyr12, zyr13, zyr804, zyr6, zyr7], 0)
noncomputable def zyh1981 : zH := (126, [zyr9, zyr10, zyr11, zyr12, zyr13, zyr804, zyr6, zyr7], zym9)
noncomputable def zyc879 : zC := .inr (8, [zyv114, zyv15, zyv15, zyv15, zyv114, zyv114, zyv114, zyv114, zyv15, zyv114, zyv15, zyv15, zyv127, zyv17, zyv317, zyv334, zyv241, zyv114, zyv114, zyv114, zyv15, zyv36, zyv129, zyv114, zyv15, zyv114, zyv114, zyv15, zyv15, zyv114, zyv114, zyv114, zyv114, zyv114, zyv114, zyv114, zyv114, zyv114, zyv114, zyv15, zyv114, zyv114, zyv114, zyv114, zyv15, zyv15, zyv15, zyv15, zyv114, zyv114, zyv114])
noncomputable def zyr805 : List zC := [zyc60, zyc60, zyc60, zyc69, zyc10, zyc10, zyc10, zyc12, zyc70, zyc8, zyc8, zyc70, zyc8, zyc8, zyc879, zyc52]
noncomputable def zyh1982 : zH := (126, [zyr9, zyr10, zyr11, zyr12, zyr13, zyr805, zyr6, zyr7], zym9)
noncomputable def zyc880 : zC := .inr (8, [zyv114, zyv15, zyv15, zyv15, zyv114, zyv114, zyv114, zyv114, zyv15, zyv114, zyv15, zyv15, zyv127, zyv17, zyv317, zyv334, zyv124, zyv114, zyv114, zyv114, zyv15, zyv36, zyv129, zyv114, zyv15, zyv114, zyv114, zyv15, zyv15, zyv114, zyv114, zyv114, zyv114, zyv114, zyv114, zyv114, zyv114, zyv114, zyv114, zyv15, zyv114, zyv114, zyv114, zyv114, zyv15, zyv15, zyv15, zyv15, zyv114, zyv114, zyv114])
noncomputable def zyr806 : List zC := [zyc60, zyc60, zyc60, zyc69, zyc10, zyc10, zyc10, zyc12, zyc70, zyc8, zyc8, zyc70, zyc8, zyc8, zyc880, zyc52]
noncomputable def zyh1983 : zH := (126, [zyr9, zyr10, zyr11, zyr12, zyr13, zyr806, zyr6, zyr7], 0)
noncomputable def zyh1984 : zH := (126, [zyr9, zyr10, zyr11, zyr12, zyr13, zyr806, zyr6, zyr7], zym9)
noncomputable def zyc881 : zC := .inr (8, [zyv114, zyv15, zyv15, zyv15, zyv114, zyv114, zyv114, zyv114, zyv15, zyv114, zyv15, zyv15, zyv127, zyv17, zyv317, zyv335, zyv241, zyv114, zyv114, zyv114, zyv15, zyv36, zyv129, zyv114, zyv15, zyv114, zyv114, zyv15, zyv15, zyv114, zyv114, zyv114, zyv114, zyv114, zyv114, zyv114, zyv114, zyv114, zyv114, zyv15, zyv114, zyv114, zyv114, zyv114, zyv15, zyv15, zyv15, zyv15, zyv114, zyv114, zyv114])
noncomputable def zyr807 : List zC := [zyc60, zyc60, zyc60, zyc69, zyc10, zyc10, zyc10, zyc12, zyc70, zyc8, zyc8, zyc70, zyc8, zyc8, zyc881, zyc52]
noncomputable def zyh1985 : zH := (126, [zyr9, zyr10, zyr11, zyr12, zyr13, zyr807, zyr6, zyr7], zym9)
noncomputable def zyc882 : zC := .inr (8, [zyv114, zyv15, zyv15, zyv15, zyv114, zyv114, zyv114, zyv114, zyv15, zyv114, zyv15, zyv15, zyv127, zyv17, zyv317, zyv335, zyv124, zyv114, zyv114, zyv114, zyv15, zyv36, zyv129, zyv114, zyv15, zyv114, zyv114, zyv15, zyv15, zyv114, zyv114, zyv114, zyv114, zyv114, zyv114, zyv114, zyv114, zyv114, zyv114, zyv15, zyv114, zyv114, zyv114, zyv114, zyv15, zyv15, zyv15, zyv15, zyv114, zyv114, zyv114])
noncomputable def zyr808 : List zC := [zyc60, zyc60, zyc60, zyc69, zyc10, zyc10, zyc10, zyc12, zyc70, zyc8, zyc8, zyc70, zyc8, zyc8, zyc882, zyc52]
noncomputable def zyh1986 : zH := (126, [zyr9, zyr10, zyr11, zyr12, zyr13, zyr808, zyr6, zyr7], 0)
noncomputable def zyh1987 : zH := (126, [zyr9, zyr10, zyr11, zyr12, zyr13, zyr808, zyr6, zyr7], zym9)
noncomputable def zyc883 : zC := .inr (8, [zyv114, zyv15, zyv15, zyv15, zyv114, zyv114, zyv114, zyv114, zyv15, zyv114, zyv15, zyv15, zyv127, zyv17, zyv317, zyv336, zyv241, zyv114, zyv114, zyv114, zyv15, zyv36, zyv129, zyv114, zyv15, zyv114, zyv114, zyv15, zyv15, zyv114, zyv114, zyv114, zyv114, zyv114, zyv114, zyv114, zyv114, zyv114, zyv114, zyv15, zyv114, zyv114, zyv114, zyv114, zyv15, zyv15, zyv15, zyv15, zyv114, zyv114, zyv114])
noncomputable def zyr809 : List zC := [zyc60, zyc60, zyc60, zyc69, zyc10, zyc10, zyc10, zyc12, zyc70, zyc8, zyc8, zyc70, zyc8, zyc8, zyc883, zyc52]
noncomputable def zyh1988 : zH := (126, [zyr9, zyr10, zyr11, zyr12, zyr13, zyr809, zyr6, zyr7], zym9)
noncomputable def zyc884 : zC := .inr (8, [zyv114, zyv15, zyv15, zyv15, zyv114, zyv114, zyv114, zyv114, zyv15, zyv114, zyv15, zyv15, zyv127, zyv17, zyv317, zyv336, zyv124, zyv114, zyv114, zyv114, zyv15, zyv36, zyv129, zyv114, zyv15, zyv114, zyv114, zyv15, zyv15, zyv114, zyv114, zyv114, zyv114, zyv114, zyv114, zyv114, zyv114, zyv114, zyv114, zyv15, zyv114, zyv114, zyv114, zyv114, zyv15, zyv15, zyv15, zyv15, zyv114, zyv114, zyv114])
noncomputable def zyr810 : List zC := [zyc60, zyc60, zyc60, zyc69, zyc10, zyc10, zyc10, zyc12, zyc70, zyc8, zyc8, zyc70, zyc8, zyc8, zyc884, zyc52]
noncomputable def zyh1989 : zH := (126, [zyr9, zyr10, zyr11, zyr12, zyr13, zyr810, zyr6, zyr7], 0)
noncomputable def zyh1990 : zH := (126, [zyr9, zyr10, zyr11, zyr12, zyr13, zyr810, zyr6, zyr7], zym9)
noncomputable def zyc885 : zC := .inr (8, [zyv114, zyv15, zyv15, zyv15, zyv114, zyv114, zyv114, zyv114, zyv15, zyv114, zyv15, zyv15, zyv127, zyv17, zyv317, zyv337, zyv241, zyv114, zyv114, zyv114, zyv15, zyv36, zyv129, zyv114, zyv15, zyv114, zyv114, zyv15, zyv15, zyv114, zyv114, zyv114, zyv114, zyv114, zyv114, zyv114, zyv114, zyv114, zyv114, zyv15, zyv114, zyv114, zyv114, zyv114, zyv15, zyv15, zyv15, zyv15, zyv114, zyv114, zyv114])
noncomputable def zyr811 : List zC := [zyc60, zyc60, zyc60, zyc69, zyc10, zyc10, zyc10, zyc12, zyc70, zyc8, zyc8, zyc70, zyc8, zyc8, zyc885, zyc52]
noncomputable def zyh1991 : zH := (126, [zyr9, zyr10, zyr11, zyr12, zyr13, zyr811, zyr6, zyr7], zym9)
noncomputable def zyc886 : zC := .inr (8, [zyv114, zyv15, zyv15, zyv15, zyv114, zyv114, zyv114, zyv114, zyv15, zyv114, zyv15, zyv15, zyv127, zyv17, zyv317, zyv337, zyv124, zyv114, zyv114, zyv114, zyv15, zyv36, zyv129, zyv114, zyv15, zyv114, zyv114, zyv15, zyv15, zyv114, zyv114, zyv114, zyv114, zyv114, zyv114, zyv114, zyv114, zyv114, zyv114, zyv15, zyv114, zyv114, zyv114, zyv114, zyv15, zyv15, zyv15, zyv15, zyv114, zyv114, zyv114])
noncomputable def zyr812 : List zC := [zyc60, zyc60, zyc60, zyc69, zyc10, zyc10, zyc10, zyc12, zyc70, zyc8, zyc8, zyc70, zyc8, zyc8, zyc886, zyc52]
noncomputable def zyh1992 : zH := (126, [zyr9, zyr10, zyr11, zyr12, zyr13, zyr812, zyr6, zyr7], 0)
noncomputable def zyh1993 : zH := (126, [zyr9, zyr10, zyr11, zyr12, zyr13, zyr812, zyr6, zyr7], zym9)
noncomputable def zyc887 : zC := .inr (8, [zyv114, zyv15, zyv15, zyv15, zyv114, zyv114, zyv114, zyv114, zyv15, zyv114, zyv15, zyv15, zyv127, zyv17, zyv317, zyv338, zyv241, zyv114, zyv114, zyv114, zyv15, zyv36, zyv129, zyv114, zyv15, zyv114, zyv114, zyv15, zyv15, zyv114, zyv114, zyv114, zyv114, zyv114, zyv114, zyv114, zyv114, zyv114, zyv114, zyv15, zyv114, zyv114, zyv114, zyv114, zyv15, zyv15, zyv15, zyv15, zyv114, zyv114, zyv114])
noncomputable def zyr813 : List zC := [zyc60, zyc60, zyc60, zyc69, zyc10, zyc10, zyc10, zyc12, zyc70, zyc8, zyc8, zyc70, zyc8, zyc8, zyc887, zyc52]
noncomputable def zyh1994 : zH := (126, [zyr9, zyr10, zyr11, zyr12, zyr13, zyr813, zyr6, zyr7], zym9)
noncomputable def zyc888 : zC := .inr (8, [zyv114, zyv15, zyv15, zyv15, zyv114, zyv114, zyv114, zyv114, zyv15, zyv114, zyv15, zyv15, zyv127, zyv17, zyv317, zyv338, zyv124, zyv114, zyv114, zyv114, zyv15, zyv36, zyv129, zyv114, zyv15, zyv114, zyv114, zyv15, zyv15, zyv114, zyv114, zyv114, zyv114, zyv114, zyv114, zyv114, zyv114, zyv114, zyv114, zyv15, zyv114, zyv114, zyv114, zyv114, zyv15, zyv15, zyv15, zyv15, zyv114, zyv114, zyv114])
noncomputable def zyr814 : List zC := [zyc60, zyc60, zyc60, zyc69, zyc10, zyc10, zyc10, zyc12, zyc70, zyc8, zyc8, zyc70, zyc8, zyc8, zyc888, zyc52]
noncomputable def zyh1995 : zH := (126, [zyr9, zyr10, zyr11, zyr12, zyr13, zyr814, zyr6, zyr7], 0)
noncomputable def zyh1996 : zH := (126, [zyr9, zyr10, zyr11, zyr12, zyr13, zyr814, zyr6, zyr7], zym9)
noncomputable def zyc889 : zC := .inr (8, [zyv114, zyv15, zyv15, zyv15, zyv114, zyv114, zyv114, zyv114, zyv15, zyv114, zyv15, zyv15, zyv127, zyv17, zyv317, zyv339, zyv241, zyv114, zyv114, zyv114, zyv15, zyv36, zyv129, zyv114, zyv15, zyv114, zyv114, zyv15, zyv15, zyv114, zyv114, zyv114, zyv114, zyv114, zyv114, zyv114, zyv114, zyv114, zyv114, zyv15, zyv114, zyv114, zyv114, zyv114, zyv15, zyv15, zyv15, zyv15, zyv114, zyv114, zyv114])
noncomputable def zyr815 : List zC := [zyc60, zyc60, zyc60, zyc69, zyc10, zyc10, zyc10, zyc12, zyc70, zyc8, zyc8, zyc70, zyc8, zyc8, zyc889, zyc52]
noncomputable def zyh1997 : zH := (126, [zyr9, zyr10, zyr11, zyr12, zyr13, zyr815, zyr6, zyr7], zym9)
noncomputable def zyc890 : zC := .inr (8, [zyv114, zyv15, zyv15, zyv15, zyv114, zyv114, zyv114, zyv114, zyv15, zyv114, zyv15, zyv15, zyv127, zyv17, zyv317, zyv339, zyv124, zyv114, zyv114, zyv114, zyv15, zyv36, zyv129, zyv114, zyv15, zyv114, zyv114, zyv15, zyv15, zyv114, zyv114, zyv114, zyv114, zyv114, zyv114, zyv114, zyv114, zyv114, zyv114, zyv15, zyv114, zyv114, zyv114, zyv114, zyv15, zyv15, zyv15, zyv15, zyv114, zyv114, zyv114])
noncomputable def zyr816 : List zC := [zyc60, zyc60, zyc60, zyc69, zyc10, zyc10, zyc10, zyc12, zyc70, zyc8, zyc8, zyc70, zyc8, zyc8, zyc890, zyc52]
noncomputable def zyh1998 : zH := (126, [zyr9, zyr10, zyr11, zyr12, zyr13, zyr816, zyr6, zyr7], 0)
noncomputable def zyh1999 : zH := (126, [zyr9, zyr10, zyr11, zyr12, zyr13, zyr816, zyr6, zyr7], zym9)
noncomputable def zyc891 : zC := .inr (8, [zyv114, zyv15, zyv15, zyv15, zyv114, zyv114, zyv114, zyv114, zyv15, zyv114, zyv15, zyv15, zyv127, zyv17, zyv317, zyv340, zyv241, zyv114, zyv114, zyv114, zyv15, zyv36, zyv129, zyv114, zyv15, zyv114, zyv114, zyv15, zyv15, zyv114, zyv114, zyv114, zyv114, zyv114, zyv114, zyv114, zyv114, zyv114, zyv114, zyv15, zyv114, zyv114, zyv114, zyv114, zyv15, zyv15, zyv15, zyv15, zyv114, zyv114, zyv114])
noncomputable def zyr817 : List zC := [zyc60, zyc60, zyc60, zyc69, zyc10, zyc10, zyc10, zyc12, zyc70, zyc8, zyc8, zyc70, zyc8, zyc8, zyc891, zyc52]
noncomputable def zyh2000 : zH := (126, [zyr9, zyr10, zyr11, zyr12, zyr13, zyr817, zyr6, zyr7], zym9)
noncomputable def zyc892 : zC := .inr (8, [zyv114, zyv15, zyv15, zyv15, zyv114, zyv114, zyv114, zyv114, zyv15, zyv114, zyv15, zyv15, zyv127, zyv17, zyv317, zyv340, zyv124, zyv114, zyv114, zyv114, zyv15, zyv36, zyv129, zyv114, zyv15, zyv114, zyv114, zyv15, zyv15, zyv114, zyv114, zyv114, zyv114, zyv114, zyv114, zyv114, zyv114, zyv114, zyv114, zyv15, zyv114, zyv114, zyv114, zyv114, zyv15, zyv15, zyv15, zyv15, zyv114, zyv114, zyv114])
noncomputable def zyr818 : List zC := [zyc60, zyc60, zyc60, zyc69, zyc10, zyc10, zyc10, zyc12, zyc70, zyc8, zyc8, zyc70, zyc8, zyc8, zyc892, zyc52]
noncomputable def zyh2001 : zH := (126, [zyr9, zyr10, zyr11, zyr12, zyr13, zyr818, zyr6, zyr7], 0)
noncomputable def zyh2002 : zH := (126, [zyr9, zyr10, zyr11, zyr12, zyr13, zyr818, zyr6, zyr7], zym9)
noncomputable def zyc893 : zC := .inr (8, [zyv114, zyv15, zyv15, zyv15, zyv114, zyv114, zyv114, zyv114, zyv15, zyv114, zyv15, zyv15, zyv127, zyv17, zyv317, zyv341, zyv241, zyv114, zyv114, zyv114, zyv15, zyv36, zyv129, zyv114, zyv15, zyv114, zyv114, zyv15, zyv15, zyv114, zyv114, zyv114, zyv114, zyv114, zyv114, zyv114, zyv114, zyv114, zyv114, zyv15, zyv114, zyv114, zyv114, zyv114, zyv15, zyv15, zyv15, zyv15, zyv114, zyv114, zyv114])
noncomputable def zyr819 : List zC := [zyc60, zyc60, zyc60, zyc69, zyc10, zyc10, zyc10, zyc12, zyc70, zyc8, zyc8, zyc70, zyc8, zyc8, zyc893, zyc52]
noncomputable def zyh2003 : zH := (126, [zyr9, zyr10, zyr11, zyr12, zyr13, zyr819, zyr6, zyr7], zym9)
noncomputable def zyc894 : zC := .inr (8, [zyv114, zyv15, zyv15, zyv15, zyv114, zyv114, zyv114, zyv114, zyv15, zyv114, zyv15, zyv15, zyv127, zyv17, zyv317, zyv341, zyv124, zyv114, zyv114, zyv114, zyv15, zyv36, zyv129, zyv114, zyv15, zyv114, zyv114, zyv15, zyv15, zyv114, zyv114, zyv114, zyv114, zyv114, zyv114, zyv114, zyv114, zyv114, zyv114, zyv15, zyv114, zyv114, zyv114, zyv114, zyv15, zyv15, zyv15, zyv15, zyv114, zyv114, zyv114])
noncomputable def zyr820 : List zC := [zyc60, zyc60, zyc60, zyc69, zyc10, zyc10, zyc10, zyc12, zyc70, zyc8, zyc8, zyc70, zyc8, zyc8, zyc894, zyc52]
noncomputable def zyh2004 : zH := (126, [zyr9, zyr10, zyr11, zyr12, zyr13, zyr820, zyr6, zyr7], 0)
noncomputable def zyh2005 : zH := (126, [zyr9, zyr10, zyr11, zyr12, zyr13, zyr820, zyr6, zyr7], zym9)
noncomputable def zyc895 : zC := .inr (8, [zyv114, zyv15, zyv15, zyv15, zyv114, zyv114, zyv114, zyv114, zyv15, zyv114, zyv15, zyv15, zyv127, zyv17, zyv317, zyv342, zyv241, zyv114, zyv114, zyv114, zyv15, zyv36, zyv129, zyv114, zyv15, zyv114, zyv114, zyv15, zyv15, zyv114, zyv114, zyv114, zyv114, zyv114, zyv114, zyv114, zyv114, zyv114, zyv114, zyv15, zyv114, zyv114, zyv114, zyv114, zyv15, zyv15, zyv15, zyv15, zyv114, zyv114, zyv114])
noncomputable def zyr821 : List zC := [zyc60, zyc60, zyc60, zyc69, zyc10, zyc10, zyc10, zyc12, zyc70, zyc8, zyc8, zyc70, zyc8, zyc8, zyc895, zyc52]
noncomputable def zyh2006 : zH := (126, [zyr9, zyr10, zyr11, zyr12, zyr13, zyr821, zyr6, zyr7], zym9)
noncomputable def zyc896 : zC := .inr (8, [zyv114, zyv15, zyv15, zyv15, zyv114, zyv114, zyv114, zyv114, zyv15, zyv114, zyv15, zyv15, zyv127, zyv17, zyv317, zyv342, zyv124, zyv114, zyv114, zyv114, zyv15, zyv36, zyv129, zyv114, zyv15, zyv114, zyv114, zyv15, zyv15, zyv114, zyv114, zyv114, zyv114, zyv114, zyv114, zyv114, zyv114, zyv114, zyv114, zyv15, zyv114, zyv114, zyv114, zyv114, zyv15, zyv15, zyv15, zyv15, zyv114, zyv114, zyv114])
noncomputable def zyr822 : List zC := [zyc60, zyc60, zyc60, zyc69, zyc10, zyc10, zyc10, zyc12, zyc70, zyc8, zyc8, zyc70, zyc8, zyc8, zyc896, zyc52]
noncomputable def zyh2007 : zH := (126, [zyr9, zyr10, zyr11, zyr12, zyr13, zyr822, zyr6, zyr7], 0)
noncomputable def zyh2008 : zH := (126, [zyr9, zyr10, zyr11, zyr12, zyr13, zyr822, zyr6, zyr7], zym9)
noncomputable def zyc897 : zC := .inr (8, [zyv114, zyv15, zyv15, zyv15, zyv114, zyv114, zyv114, zyv114, zyv15, zyv114, zyv15, zyv15, zyv127, zyv17, zyv317, zyv343, zyv241, zyv114, zyv114, zyv114, zyv15, zyv36, zyv129, zyv114, zyv15, zyv114, zyv114, zyv15, zyv15, zyv114, zyv114, zyv114, zyv114, zyv114, zyv114, zyv114, zyv114, zyv114, zyv114, zyv15, zyv114, zyv114, zyv114, zyv114, zyv15, zyv15, zyv15, zyv15, zyv114, zyv114, zyv114])
noncomputable def zyr823 : List zC := [zyc60, zyc60, zyc60, zyc69, zyc10, zyc10, zyc10, zyc12, zyc70, zyc8, zyc8, zyc70, zyc8, zyc8, zyc897, zyc52]
noncomputable def zyh2009 : zH := (126, [zyr9, zyr10, zyr11, zyr12, zyr13, zyr823, zyr6, zyr7], zym9)
noncomputable def zyc898 : zC := .inr (8, [zyv114, zyv15, zyv15, zyv15, zyv114, zyv114, zyv114, zyv114, zyv15, zyv114, zyv15, zyv15, zyv127, zyv17, zyv317, zyv343, zyv124, zyv114, zyv114, zyv114, zyv15, zyv36, zyv129, zyv114, zyv15, zyv114, zyv114, zyv15, zyv15, zyv114, zyv114, zyv114, zyv114, zyv114, zyv114, zyv114, zyv114, zyv114, zyv114, zyv15, zyv114, zyv114, zyv114, zyv114, zyv15, zyv15, zyv15, zyv15, zyv114, zyv114, zyv114])
noncomputable def zyr824 : List zC := [zyc60, zyc60, zyc60, zyc69, zyc10, zyc10, zyc10, zyc12, zyc70, zyc8, zyc8, zyc70, zyc8, zyc8, zyc898, zyc52]
noncomputable def zyh2010 : zH := (126, [zyr9, zyr10, zyr11, zyr12, zyr13, zyr824, zyr6, zyr7], 0)
noncomputable def zyh2011 : zH := (126, [zyr9, zyr10, zyr11, zyr12, zyr13, zyr824, zyr6, zyr7], zym9)
noncomputable def zyc899 : zC := .inr (8, [zyv114, zyv15, zyv15, zyv15, zyv114, zyv114, zyv114, zyv114, zyv15, zyv114, zyv15, zyv15, zyv127, zyv17, zyv317, zyv344, zyv241, zyv114, zyv114, zyv114, zyv15, zyv36, zyv129, zyv114, zyv15, zyv114, zyv114, zyv15, zyv15, zyv114, zyv114, zyv114, zyv114, zyv114, zyv114, zyv114, zyv114, zyv114, zyv114, zyv15, zyv114, zyv114, zyv114, zyv114, zyv15, zyv15, zyv15, zyv15, zyv114, zyv114, zyv114])
noncomputable def zyr825 : List zC := [zyc60, zyc60, zyc60, zyc69, zyc10, zyc10, zyc10, zyc12, zyc70, zyc8, zyc8, zyc70, zyc8, zyc8, zyc899, zyc52]
noncomputable def zyh2012 : zH := (126, [zyr9, zyr10, zyr11, zyr12, zyr13, zyr825, zyr6, zyr7], zym9)
noncomputable def zyc900 : zC := .inr (8, [zyv114, zyv15, zyv15, zyv15, zyv114, zyv114, zyv114, zyv114, zyv15, zyv114, zyv15, zyv15, zyv127, zyv17, zyv317, zyv344, zyv124, zyv114, zyv114, zyv114, zyv15, zyv36, zyv129, zyv114, zyv15, zyv114, zyv114, zyv15, zyv15, zyv114, zyv114, zyv114, zyv114, zyv114, zyv114, zyv114, zyv114, zyv114, zyv114, zyv15, zyv114, zyv114, zyv114, zyv114, zyv15, zyv15, zyv15, zyv15, zyv114, zyv114, zyv114])
noncomputable def zyr826 : List zC := [zyc60, zyc60, zyc60, zyc69, zyc10, zyc10, zyc10, zyc12, zyc70, zyc8, zyc8, zyc70, zyc8, zyc8, zyc900, zyc52]
noncomputable def zyh2013 : zH := (126, [zyr9, zyr10, zyr11, zyr12, zyr13, zyr826, zyr6, zyr7], 0)
noncomputable def zyh2014 : zH := (126, [zyr9, zyr10, zyr11, zyr12, zyr13, zyr826, zyr6, zyr7], zym9)
noncomputable def zyc901 : zC := .inr (8, [zyv114, zyv15, zyv15, zyv15, zyv114, zyv114, zyv114, zyv114, zyv15, zyv114, zyv15, zyv15, zyv127, zyv17, zyv317, zyv345, zyv241, zyv114, zyv114, zyv114, zyv15, zyv36, zyv129, zyv114, zyv15, zyv114, zyv114, zyv15, zyv15, zyv114, zyv114, zyv114, zyv114, zyv114, zyv114, zyv114, zyv114, zyv114, zyv114, zyv15, zyv114, zyv114, zyv114, zyv114, zyv15, zyv15, zyv15, zyv15, zyv114, zyv114, zyv114])
noncomputable def zyr827 : List zC := [zyc60, zyc60, zyc60, zyc69, zyc10, zyc10, zyc10, zyc12, zyc70, zyc8, zyc8, zyc70, zyc8, zyc8, zyc901, zyc52]
noncomputable def zyh2015 : zH := (126, [zyr9, zyr10, zyr11, zyr12, zyr13, zyr827, zyr6, zyr7], zym9)
noncomputable def zyc902 : zC := .inr (8, [zyv114, zyv15, zyv15, zyv15, zyv114, zyv114, zyv114, zyv114, zyv15, zyv114, zyv15, zyv15, zyv127, zyv17, zyv317, zyv345, zyv124, zyv114, zyv114, zyv114, zyv15, zyv36, zyv129, zyv114, zyv15, zyv114, zyv114, zyv15, zyv15, zyv114, zyv114, zyv114, zyv114, zyv114, zyv114, zyv114, zyv114, zyv114, zyv114, zyv15, zyv114, zyv114, zyv114, zyv114, zyv15, zyv15, zyv15, zyv15, zyv114, zyv114, zyv114])
noncomputable def zyr828 : List zC := [zyc60, zyc60, zyc60, zyc69, zyc10, zyc10, zyc10, zyc12, zyc70, zyc8, zyc8, zyc70, zyc8, zyc8, zyc902, zyc52]
noncomputable def zyh2016 : zH := (126, [zyr9, zyr10, zyr11, zyr12, zyr13, zyr828, zyr6, zyr7], 0)
noncomputable def zyh2017 : zH := (126, [zyr9, zyr10, zyr11, zyr12, zyr13, zyr828, zyr6, zyr7], zym9)
noncomputable def zyc903 : zC := .inr (8, [zyv114, zyv15, zyv15, zyv15, zyv114, zyv114, zyv114, zyv114, zyv15, zyv114, zyv15, zyv15, zyv127, zyv17, zyv317, zyv346, zyv241, zyv114, zyv114, zyv114, zyv15, zyv36, zyv129, zyv114, zyv15, zyv114, zyv114, zyv15, zyv15, zyv114, zyv114, zyv114, zyv114, zyv114, zyv114, zyv114, zyv114, zyv114, zyv114, zyv15, zyv114, zyv114, zyv114, zyv114, zyv15, zyv15, zyv15, zyv15, zyv114, zyv114, zyv114])
noncomputable def zyr829 : List zC := [zyc60, zyc60, zyc60, zyc69, zyc10, zyc10, zyc10, zyc12, zyc70, zyc8, zyc8, zyc70, zyc8, zyc8, zyc903, zyc52]
noncomputable def zyh2018 : zH := (126, [zyr9, zyr10, zyr11, zyr12, zyr13, zyr829, zyr6, zyr7], zym9)
noncomputable def zyc904 : zC := .inr (8, [zyv114, zyv15, zyv15, zyv15, zyv114, zyv114, zyv114, zyv114, zyv15, zyv114, zyv15, zyv15, zyv127, zyv17, zyv317, zyv346, zyv124, zyv114, zyv114, zyv114, zyv15, zyv36, zyv129, zyv114, zyv15, zyv114, zyv114, zyv15, zyv15, zyv114, zyv114, zyv114, zyv114, zyv114, zyv114, zyv114, zyv114, zyv114, zyv114, zyv15, zyv114, zyv114, zyv114, zyv114, zyv15, zyv15, zyv15, zyv15, zyv114, zyv114, zyv114])
noncomputable def zyr830 : List zC := [zyc60, zyc60, zyc60, zyc69, zyc10, zyc10, zyc10, zyc12, zyc70, zyc8, zyc8, zyc70, zyc8, zyc8, zyc904, zyc52]
noncomputable def zyh2019 : zH := (126, [zyr9, zyr10, zyr11, zyr12, zyr13, zyr830, zyr6, zyr7], 0)
noncomputable def zyh2020 : zH := (126, [zyr9, zyr10, zyr11, zyr12, zyr13, zyr830, zyr6, zyr7], zym9)
noncomputable def zyc905 : zC := .inr (8, [zyv114, zyv15, zyv15, zyv15, zyv114, zyv114, zyv114, zyv114, zyv15, zyv114, zyv15, zyv15, zyv127, zyv17, zyv317, zyv347, zyv241, zyv114, zyv114, zyv114, zyv15, zyv36, zyv129, zyv114, zyv15, zyv114, zyv114, zyv15, zyv15, zyv114, zyv114, zyv114, zyv114, zyv114, zyv114, zyv114, zyv114, zyv114, zyv114, zyv15, zyv114, zyv114, zyv114, zyv114, zyv15, zyv15, zyv15, zyv15, zyv114, zyv114, zyv114])
noncomputable def zyr831 : List zC := [zyc60, zyc60, zyc60, zyc69, zyc10, zyc10, zyc10, zyc12, zyc70, zyc8, zyc8, zyc70, zyc8, zyc8, zyc905, zyc52]
noncomputable def zyh2021 : zH := (126, [zyr9, zyr10, zyr11, zyr12, zyr13, zyr831, zyr6, zyr7], zym9)
noncomputable def zyc906 : zC := .inr (8, [zyv114, zyv15, zyv15, zyv15, zyv114, zyv114, zyv114, zyv114, zyv15, zyv114, zyv15, zyv15, zyv127, zyv17, zyv317, zyv347, zyv124, zyv114, zyv114, zyv114, zyv15, zyv36, zyv129, zyv114, zyv15, zyv114, zyv114, zyv15, zyv15, zyv114, zyv114, zyv114, zyv114, zyv114, zyv114, zyv114, zyv114, zyv114, zyv114, zyv15, zyv114, zyv114, zyv114, zyv114, zyv15, zyv15, zyv15, zyv15, zyv114, zyv114, zyv114])
noncomputable def zyr832 : List zC := [zyc60, zyc60, zyc60, zyc69, zyc10, zyc10, zyc10, zyc12, zyc70, zyc8, zyc8, zyc70, zyc8, zyc8, zyc906, zyc52]
noncomputable def zyh2022 : zH := (126, [zyr9, zyr10, zyr11, zyr12, zyr13, zyr832, zyr6, zyr7], 0)
noncomputable def zyh2023 : zH := (126, [zyr9, zyr10, zyr11, zyr12, zyr13, zyr832, zyr6, zyr7], zym9)
noncomputable def zyc907 : zC := .inr (8, [zyv114, zyv15, zyv15, zyv15, zyv114, zyv114, zyv114, zyv114, zyv15, zyv114, zyv15, zyv15, zyv127, zyv17, zyv317, zyv348, zyv241, zyv114, zyv114, zyv114, zyv15, zyv36, zyv129, zyv114, zyv15, zyv114, zyv114, zyv15, zyv15, zyv114, zyv114, zyv114, zyv114, zyv114, zyv114, zyv114, zyv114, zyv114, zyv114, zyv15, zyv114, zyv114, zyv114, zyv114, zyv15, zyv15, zyv15, zyv15, zyv114, zyv114, zyv114])
noncomputable def zyr833 : List zC := [zyc60, zyc60, zyc60, zyc69, zyc10, zyc10, zyc10, zyc12, zyc70, zyc8, zyc8, zyc70, zyc8, zyc8, zyc907, zyc52]
noncomputable def zyh2024 : zH := (126, [zyr9, zyr10, zyr11, zyr12, zyr13, zyr833, zyr6, zyr7], zym9)
noncomputable def zyc908 : zC := .inr (8, [zyv114, zyv15, zyv15, zyv15, zyv114, zyv114, zyv114, zyv114, zyv15, zyv114, zyv15, zyv15, zyv127, zyv17, zyv317, zyv348, zyv124, zyv114, zyv114, zyv114, zyv15, zyv36, zyv129, zyv114, zyv15, zyv114, zyv114, zyv15, zyv15, zyv114, zyv114, zyv114, zyv114, zyv114, zyv114, zyv114, zyv114, zyv114, zyv114, zyv15, zyv114, zyv114, zyv114, zyv114, zyv15, zyv15, zyv15, zyv15, zyv114, zyv114, zyv114])
noncomputable def zyr834 : List zC := [zyc60, zyc60, zyc60, zyc69, zyc10, zyc10, zyc10, zyc12, zyc70, zyc8, zyc8, zyc70, zyc8, zyc8, zyc908, zyc52]
noncomputable def zyh2025 : zH := (126, [zyr9, zyr10, zyr11, zyr12, zyr13, zyr834, zyr6, zyr7], 0)
noncomputable def zyh2026 : zH := (126, [zyr9, zyr10, zyr11, zyr12, zyr13, zyr834, zyr6, zyr7], zym9)
noncomputable def zyc909 : zC := .inr (8, [zyv114, zyv15, zyv15, zyv15, zyv114, zyv114, zyv114, zyv114, zyv15, zyv114, zyv15, zyv15, zyv127, zyv17, zyv317, zyv349, zyv241, zyv114, zyv114, zyv114, zyv15, zyv36, zyv129, zyv114, zyv15, zyv114, zyv114, zyv15, zyv15, zyv114, zyv114, zyv114, zyv114, zyv114, zyv114, zyv114, zyv114, zyv114, zyv114, zyv15, zyv114, zyv114, zyv114, zyv114, zyv15, zyv15, zyv15, zyv15, zyv114, zyv114, zyv114])
noncomputable def zyr835 : List zC := [zyc60, zyc60, zyc60, zyc69, zyc10, zyc10, zyc10, zyc12, zyc70, zyc8, zyc8, zyc70, zyc8, zyc8, zyc909, zyc52]
noncomputable def zyh2027 : zH := (126, [zyr9, zyr10, zyr11, zyr12, zyr13, zyr835, zyr6, zyr7], zym9)
noncomputable def zyc910 : zC := .inr (8, [zyv114, zyv15, zyv15, zyv15, zyv114, zyv114, zyv114, zyv114, zyv15, zyv114, zyv15, zyv15, zyv127, zyv17, zyv317, zyv349, zyv124, zyv114, zyv114, zyv114, zyv15, zyv36, zyv129, zyv114, zyv15, zyv114, zyv114, zyv15, zyv15, zyv114, zyv114, zyv114, zyv114, zyv114, zyv114, zyv114, zyv114, zyv114, zyv114, zyv15, zyv114, zyv114, zyv114, zyv114, zyv15, zyv15, zyv15, zyv15, zyv114, zyv114, zyv114])
noncomputable def zyr836 : List zC := [zyc60, zyc60, zyc60, zyc69, zyc10, zyc10, zyc10, zyc12, zyc70, zyc8, zyc8, zyc70, zyc8, zyc8, zyc910, zyc52]
noncomputable def zyh2028 : zH := (126, [zyr9, zyr10, zyr11, zyr12, zyr13, zyr836, zyr6, zyr7], 0)
noncomputable def zyh2029 : zH := (126, [zyr9, zyr10, zyr11, zyr12, zyr13, zyr836, zyr6, zyr7], zym9)
noncomputable def zyc911 : zC := .inr (8, [zyv114, zyv15, zyv15, zyv15, zyv114, zyv114, zyv114, zyv114, zyv15, zyv114, zyv15, zyv15, zyv127, zyv17, zyv317, zyv350, zyv241, zyv114, zyv114, zyv114, zyv15, zyv36, zyv129, zyv114, zyv15, zyv114, zyv114, zyv15, zyv15, zyv114, zyv114, zyv114, zyv114, zyv114, zyv114, zyv114, zyv114, zyv114, zyv114, zyv15, zyv114, zyv114, zyv114, zyv114, zyv15, zyv15, zyv15, zyv15, zyv114, zyv114, zyv114])
noncomputable def zyr837 : List zC := [zyc60, zyc60, zyc60, zyc69, zyc10, zyc10, zyc10, zyc12, zyc70, zyc8, zyc8, zyc70, zyc8, zyc8, zyc911, zyc52]
noncomputable def zyh2030 : zH := (126, [zyr9, zyr10, zyr11, zyr12, zyr13, zyr837, zyr6, zyr7], zym9)
noncomputable def zyc912 : zC := .inr (8, [zyv114, zyv15, zyv15, zyv15, zyv114, zyv114, zyv114, zyv114, zyv15, zyv114, zyv15, zyv15, zyv127, zyv17, zyv317, zyv350, zyv124, zyv114, zyv114, zyv114, zyv15, zyv36, zyv129, zyv114, zyv15, zyv114, zyv114, zyv15, zyv15, zyv114, zyv114, zyv114, zyv114, zyv114, zyv114, zyv114, zyv114, zyv114, zyv114, zyv15, zyv114, zyv114, zyv114, zyv114, zyv15, zyv15, zyv15, zyv15, zyv114, zyv114, zyv114])
noncomputable def zyr838 : List zC := [zyc60, zyc60, zyc60, zyc69, zyc10, zyc10, zyc10, zyc12, zyc70, zyc8, zyc8, zyc70, zyc8, zyc8, zyc912, zyc52]
noncomputable def zyh2031 : zH := (126, [zyr9, zyr10, zyr11, zyr12, zyr13, zyr838, zyr6, zyr7], 0)
noncomputable def zyh2032 : zH := (126, [zyr9, zyr10, zyr11, zyr12, zyr13, zyr838, zyr6, zyr7], zym9)
noncomputable def zyc913 : zC := .inr (8, [zyv114, zyv15, zyv15, zyv15, zyv114, zyv114, zyv114, zyv114, zyv15, zyv114, zyv15, zyv15, zyv127, zyv17, zyv317, zyv351, zyv241, zyv114, zyv114, zyv114, zyv15, zyv36, zyv129, zyv114, zyv15, zyv114, zyv114, zyv15, zyv15, zyv114, zyv114, zyv114, zyv114, zyv114, zyv114, zyv114, zyv114, zyv114, zyv114, zyv15, zyv114, zyv114, zyv114, zyv114, zyv15, zyv15, zyv15, zyv15, zyv114, zyv114, zyv114])
noncomputable def zyr839 : List zC := [zyc60, zyc60, zyc60, zyc69, zyc10, zyc10, zyc10, zyc12, zyc70, zyc8, zyc8, zyc70, zyc8, zyc8, zyc913, zyc52]
noncomputable def zyh2033 : zH := (126, [zyr9, zyr10, zyr11, zyr12, zyr13, zyr839, zyr6, zyr7], zym9)
noncomputable def zyc914 : zC := .inr (8, [zyv114, zyv15, zyv15, zyv15, zyv114, zyv114, zyv114, zyv114, zyv15, zyv114, zyv15, zyv15, zyv127, zyv17, zyv317, zyv351, zyv124, zyv114, zyv114, zyv114, zyv15, zyv36, zyv129, zyv114, zyv15, zyv114, zyv114, zyv15, zyv15, zyv114, zyv114, zyv114, zyv114, zyv114, zyv114, zyv114, zyv114, zyv114, zyv114, zyv15, zyv114, zyv114, zyv114, zyv114, zyv15, zyv15, zyv15, zyv15, zyv114, zyv114, zyv114])
noncomputable def zyr840 : List zC := [zyc60, zyc60, zyc60, zyc69, zyc10, zyc10, zyc10, zyc12, zyc70, zyc8, zyc8, zyc70, zyc8, zyc8, zyc914, zyc52]
noncomputable def zyh2034 : zH := (126, [zyr9, zyr10, zyr11, zyr12, zyr13, zyr840, zyr6, zyr7], 0)
noncomputable def zyh2035 : zH := (126, [zyr9, zyr10, zyr11, zyr12, zyr13, zyr840, zyr6, zyr7], zym9)
noncomputable def zyc915 : zC := .inr (8, [zyv114, zyv15, zyv15, zyv15, zyv114, zyv114, zyv114, zyv114, zyv15, zyv114, zyv15, zyv15, zyv127, zyv17, zyv317, zyv352, zyv241, zyv114, zyv114, zyv114, zyv15, zyv36, zyv129, zyv114, zyv15, zyv114, zyv114, zyv15, zyv15, zyv114, zyv114, zyv114, zyv114, zyv114, zyv114, zyv114, zyv114, zyv114, zyv114, zyv15, zyv114, zyv114, zyv114, zyv114, zyv15, zyv15, zyv15, zyv15, zyv114, zyv114, zyv114])
noncomputable def zyr841 : List zC := [zyc60, zyc60, zyc60, zyc69, zyc10, zyc10, zyc10, zyc12, zyc70, zyc8, zyc8, zyc70, zyc8, zyc8, zyc915, zyc52]
noncomputable def zyh2036 : zH := (126, [zyr9, zyr10, zyr11, zyr12, zyr13, zyr841, zyr6, zyr7], zym9)
noncomputable def zyc916 : zC := .inr (8, [zyv114, zyv15, zyv15, zyv15, zyv114, zyv114, zyv114, zyv114, zyv15, zyv114, zyv15, zyv15, zyv127, zyv17, zyv317, zyv352, zyv124, zyv114, zyv114, zyv114, zyv15, zyv36, zyv129, zyv114, zyv15, zyv114, zyv114, zyv15, zyv15, zyv114, zyv114, zyv114, zyv114, zyv114, zyv114, zyv114, zyv114, zyv114, zyv114, zyv15, zyv114, zyv114, zyv114, zyv114, zyv15, zyv15, zyv15, zyv15, zyv114, zyv114, zyv114])
noncomputable def zyr842 : List zC := [zyc60, zyc60, zyc60, zyc69, zyc10, zyc10, zyc10, zyc12, zyc70, zyc8, zyc8, zyc70, zyc8, zyc8, zyc916, zyc52]
noncomputable def zyh2037 : zH := (126, [zyr9, zyr10, zyr11, zyr12, zyr13, zyr842, zyr6, zyr7], 0)
noncomputable def zyh2038 : zH := (126, [zyr9, zyr10, zyr11, zyr12, zyr13, zyr842, zyr6, zyr7], zym9)
noncomputable def zyc917 : zC := .inr (8, [zyv114, zyv15, zyv15, zyv15, zyv114, zyv114, zyv114, zyv114, zyv15, zyv114, zyv15, zyv15, zyv127, zyv17, zyv317, zyv353, zyv241, zyv114, zyv114, zyv114, zyv15, zyv36, zyv129, zyv114, zyv15, zyv114, zyv114, zyv15, zyv15, zyv114, zyv114, zyv114, zyv114, zyv114, zyv114, zyv114, zyv114, zyv114, zyv114, zyv15, zyv114, zyv114, zyv114, zyv114, zyv15, zyv15, zyv15, zyv15, zyv114, zyv114, zyv114])
noncomputable def zyr843 : List zC := [zyc60, zyc60, zyc60, zyc69, zyc10, zyc10, zyc10, zyc12, zyc70, zyc8, zyc8, zyc70, zyc8, zyc8, zyc917, zyc52]
noncomputable def zyh2039 : zH := (126, [zyr9, zyr10, zyr11, zyr12, zyr13, zyr843, zyr6, zyr7], zym9)
noncomputable def zyc918 : zC := .inr (8, [zyv114, zyv15, zyv15, zyv15, zyv114, zyv114, zyv114, zyv114, zyv15, zyv114, zyv15, zyv15, zyv127, zyv17, zyv317, zyv353, zyv124, zyv114, zyv114, zyv114, zyv15, zyv36, zyv129, zyv114, zyv15, zyv114, zyv114, zyv15, zyv15, zyv114, zyv114, zyv114, zyv114, zyv114, zyv114, zyv114, zyv114, zyv114, zyv114, zyv15, zyv114, zyv114, zyv114, zyv114, zyv15, zyv15, zyv15, zyv15, zyv114, zyv114, zyv114])
noncomputable def zyr844 : List zC := [zyc60, zyc60, zyc60, zyc69, zyc10, zyc10, zyc10, zyc12, zyc70, zyc8, zyc8, zyc70, zyc8, zyc8, zyc918, zyc52]
noncomputable def zyh2040 : zH := (126, [zyr9, zyr10, zyr11, zyr12, zyr13, zyr844, zyr6, zyr7], 0)
noncomputable def zyh2041 : zH := (126, [zyr9, zyr10, zyr11, zyr12, zyr13, zyr844, zyr6, zyr7], zym9)
noncomputable def zyc919 : zC := .inr (8, [zyv114, zyv15, zyv15, zyv15, zyv114, zyv114, zyv114, zyv114, zyv15, zyv114, zyv15, zyv15, zyv127, zyv17, zyv317, zyv354, zyv241, zyv114, zyv114, zyv114, zyv15, zyv36, zyv129, zyv114, zyv15, zyv114, zyv114, zyv15, zyv15, zyv114, zyv114, zyv114, zyv114, zyv114, zyv114, zyv114, zyv114, zyv114, zyv114, zyv15, zyv114, zyv114, zyv114, zyv114, zyv15, zyv15, zyv15, zyv15, zyv114, zyv114, zyv114])
noncomputable def zyr845 : List zC := [zyc60, zyc60, zyc60, zyc69, zyc10, zyc10, zyc10, zyc12, zyc70, zyc8, zyc8, zyc70, zyc8, zyc8, zyc919, zyc52]
noncomputable def zyh2042 : zH := (126, [zyr9, zyr10, zyr11, zyr12, zyr13, zyr845, zyr6, zyr7], zym9)
noncomputable def zyc920 : zC := .inr (8, [zyv114, zyv15, zyv15, zyv15, zyv114, zyv114, zyv114, zyv114, zyv15, zyv114, zyv15, zyv15, zyv127, zyv17, zyv317, zyv354, zyv124, zyv114, zyv114, zyv114, zyv15, zyv36, zyv129, zyv114, zyv15, zyv114, zyv114, zyv15, zyv15, zyv114, zyv114, zyv114, zyv114, zyv114, zyv114, zyv114, zyv114, zyv114, zyv114, zyv15, zyv114, zyv114, zyv114, zyv114, zyv15, zyv15, zyv15, zyv15, zyv114, zyv114, zyv114])
noncomputable def zyr846 : List zC := [zyc60, zyc60, zyc60, zyc69, zyc10, zyc10, zyc10, zyc12, zyc70, zyc8, zyc8, zyc70, zyc8, zyc8, zyc920, zyc52]
noncomputable def zyh2043 : zH := (126, [zyr9, zyr10, zyr11, zyr12, zyr13, zyr846, zyr6, zyr7], 0)
noncomputable def zyh2044 : zH := (126, [zyr9, zyr10, zyr11, zyr12, zyr13, zyr846, zyr6, zyr7], zym9)
noncomputable def zyc921 : zC := .inr (8, [zyv114, zyv15, zyv15, zyv15, zyv114, zyv114, zyv114, zyv114, zyv15, zyv114, zyv15, zyv15, zyv127, zyv17, zyv317, zyv355, zyv241, zyv114, zyv114, zyv114, zyv15, zyv36, zyv129, zyv114, zyv15, zyv114, zyv114, zyv15, zyv15, zyv114, zyv114, zyv114, zyv114, zyv114, zyv114, zyv114, zyv114, zyv114, zyv114, zyv15, zyv114, zyv114, zyv114, zyv114, zyv15, zyv15, zyv15, zyv15, zyv114, zyv114, zyv114])
noncomputable def zyr847 : List zC := [zyc60, zyc60, zyc60, zyc69, zyc10, zyc10, zyc10, zyc12, zyc70, zyc8, zyc8, zyc70, zyc8, zyc8, zyc921, zyc52]
noncomputable def zyh2045 : zH := (126, [zyr9, zyr10, zyr11, zyr12, zyr13, zyr847, zyr6, zyr7], zym9)
noncomputable def zyc922 : zC := .inr (8, [zyv114, zyv15, zyv15, zyv15, zyv114, zyv114, zyv114, zyv114, zyv15, zyv114, zyv15, zyv15, zyv127, zyv17, zyv317, zyv355, zyv124, zyv114, zyv114, zyv114, zyv15, zyv36, zyv129, zyv114, zyv15, zyv114, zyv114, zyv15, zyv15, zyv114, zyv114, zyv114, zyv114, zyv114, zyv114, zyv114, zyv114, zyv114, zyv114, zyv15, zyv114, zyv114, zyv114, zyv114, zyv15, zyv15, zyv15, zyv15, zyv114, zyv114, zyv114])
noncomputable def zyr848 : List zC := [zyc60, zyc60, zyc60, zyc69, zyc10, zyc10, zyc10, zyc12, zyc70, zyc8, zyc8, zyc70, zyc8, zyc8, zyc922, zyc52]
noncomputable def zyh2046 : zH := (126, [zyr9, zyr10, zyr11, zyr12, zyr13, zyr848, zyr6, zyr7], 0)
noncomputable def zyh2047 : zH := (126, [zyr9, zyr10, zyr11, zyr12, zyr13, zyr848, zyr6, zyr7], zym9)
noncomputable def zyc923 : zC := .inr (8, [zyv114, zyv15, zyv15, zyv15, zyv114, zyv114, zyv114, zyv114, zyv15, zyv114, zyv15, zyv15, zyv127, zyv17, zyv317, zyv356, zyv241, zyv114, zyv114, zyv114, zyv15, zyv36, zyv129, zyv114, zyv15, zyv114, zyv114, zyv15, zyv15, zyv114, zyv114, zyv114, zyv114, zyv114, zyv114, zyv114, zyv114, zyv114, zyv114, zyv15, zyv114, zyv114, zyv114, zyv114, zyv15, zyv15, zyv15, zyv15, zyv114, zyv114, zyv114])
noncomputable def zyr849 : List zC := [zyc60, zyc60, zyc60, zyc69, zyc10, zyc10, zyc10, zyc12, zyc70, zyc8, zyc8, zyc70, zyc8, zyc8, zyc923, zyc52]
noncomputable def zyh2048 : zH := (126, [zyr9, zyr10, zyr11, zyr12, zyr13, zyr849, zyr6, zyr7], zym9)
noncomputable def zyc924 : zC := .inr (8, [zyv114, zyv15, zyv15, zyv15, zyv114, zyv114, zyv114, zyv114, zyv15, zyv114, zyv15, zyv15, zyv127, zyv17, zyv317, zyv356, zyv124, zyv114, zyv114, zyv114, zyv15, zyv36, zyv129, zyv114, zyv15, zyv114, zyv114, zyv15, zyv15, zyv114, zyv114, zyv114, zyv114, zyv114, zyv114, zyv114, zyv114, zyv114, zyv114, zyv15, zyv114, zyv114, zyv114, zyv114, zyv15, zyv15, zyv15, zyv15, zyv114, zyv114, zyv114])
noncomputable def zyr850 : List zC := [zyc60, zyc60, zyc60, zyc69, zyc10, zyc10, zyc10, zyc12, zyc70, zyc8, zyc8, zyc70, zyc8, zyc8, zyc924, zyc52]
noncomputable def zyh2049 : zH := (126, [zyr9, zyr10, zyr11, zyr12, zyr13, zyr850, zyr6, zyr7], 0)
noncomputable def zyh2050 : zH := (126, [zyr9, zyr10, zyr11, zyr12, zyr13, zyr850, zyr6, zyr7], zym9)
noncomputable def zyc925 : zC := .inr (8, [zyv114, zyv15, zyv15, zyv15, zyv114, zyv114, zyv114, zyv114, zyv15, zyv114, zyv15, zyv15, zyv127, zyv17, zyv317, zyv357, zyv241, zyv114, zyv114, zyv114, zyv15, zyv36, zyv129, zyv114, zyv15, zyv114, zyv114, zyv15, zyv15, zyv114, zyv114, zyv114, zyv114, zyv114, zyv114, zyv114, zyv114, zyv114, zyv114, zyv15, zyv114, zyv114, zyv114, zyv114, zyv15, zyv15, zyv15, zyv15, zyv114, zyv114, zyv114])
noncomputable def zyr851 : List zC := [zyc60, zyc60, zyc60, zyc69, zyc10, zyc10, zyc10, zyc12, zyc70, zyc8, zyc8, zyc70, zyc8, zyc8, zyc925, zyc52]
noncomputable def zyh2051 : zH := (126, [zyr9, zyr10, zyr11, zyr12, zyr13, zyr851, zyr6, zyr7], zym9)
noncomputable def zyc926 : zC := .inr (8, [zyv114, zyv15, zyv15, zyv15, zyv114, zyv114, zyv114, zyv114, zyv15, zyv114, zyv15, zyv15, zyv127, zyv17, zyv317, zyv357, zyv124, zyv114, zyv114, zyv114, zyv15, zyv36, zyv129, zyv114, zyv15, zyv114, zyv114, zyv15, zyv15, zyv114, zyv114, zyv114, zyv114, zyv114, zyv114, zyv114, zyv114, zyv114, zyv114, zyv15, zyv114, zyv114, zyv114, zyv114, zyv15, zyv15, zyv15, zyv15, zyv114, zyv114, zyv114])
noncomputable def zyr852 : List zC := [zyc60, zyc60, zyc60, zyc69, zyc10, zyc10, zyc10, zyc12, zyc70, zyc8, zyc8, zyc70, zyc8, zyc8, zyc926, zyc52]
noncomputable def zyh2052 : zH := (126, [zyr9, zyr10, zyr11, zyr12, zyr13, zyr852, zyr6, zyr7], 0)
noncomputable def zyh2053 : zH := (126, [zyr9, zyr10, zyr11, zyr12, zyr13, zyr852, zyr6, zyr7], zym9)
noncomputable def zyc927 : zC := .inr (8, [zyv114, zyv15, zyv15, zyv15, zyv114, zyv114, zyv114, zyv114, zyv15, zyv114, zyv15, zyv15, zyv127, zyv17, zyv317, zyv358, zyv241, zyv114, zyv114, zyv114, zyv15, zyv36, zyv129, zyv114, zyv15, zyv114, zyv114, zyv15, zyv15, zyv114, zyv114, zyv114, zyv114, zyv114, zyv114, zyv114, zyv114, zyv114, zyv114, zyv15, zyv114, zyv114, zyv114, zyv114, zyv15, zyv15, zyv15, zyv15, zyv114, zyv114, zyv114])
noncomputable def zyr853 : List zC := [zyc60, zyc60, zyc60, zyc69, zyc10, zyc10, zyc10, zyc12, zyc70, zyc8, zyc8, zyc70, zyc8, zyc8, zyc927, zyc52]
noncomputable def zyh2054 : zH := (126, [zyr9, zyr10, zyr11, zyr12, zyr13, zyr853, zyr6, zyr7], zym9)
noncomputable def zyc928 : zC := .inr (8, [zyv114, zyv15, zyv15, zyv15, zyv114, zyv114, zyv114, zyv114, zyv15, zyv114, zyv15, zyv15, zyv127, zyv17, zyv317, zyv358, zyv124, zyv114, zyv114, zyv114, zyv15, zyv36, zyv129, zyv114, zyv15, zyv114, zyv114, zyv15, zyv15, zyv114, zyv114, zyv114, zyv114, zyv114, zyv114, zyv114, zyv114, zyv114, zyv114, zyv15, zyv114, zyv114, zyv114, zyv114, zyv15, zyv15, zyv15, zyv15, zyv114, zyv114, zyv114])
noncomputable def zyr854 : List zC := [zyc60, zyc60, zyc60, zyc69, zyc10, zyc10, zyc10, zyc12, zyc70, zyc8, zyc8, zyc70, zyc8, zyc8, zyc928, zyc52]
noncomputable def zyh2055 : zH := (126, [zyr9, zyr10, zyr11, zyr12, zyr13, zyr854, zyr6, zyr7], 0)
noncomputable def zyh2056 : zH := (126, [zyr9, zyr10, zyr11, zyr12, zyr13, zyr854, zyr6, zyr7], zym9)
noncomputable def zyc929 : zC := .inr (8, [zyv114, zyv15, zyv15, zyv15, zyv114, zyv114, zyv114, zyv114, zyv15, zyv114, zyv15, zyv15, zyv127, zyv17, zyv317, zyv359, zyv241, zyv114, zyv114, zyv114, zyv15, zyv36, zyv129, zyv114, zyv15, zyv114, zyv114, zyv15, zyv15, zyv114, zyv114, zyv114, zyv114, zyv114, zyv114, zyv114, zyv114, zyv114, zyv114, zyv15, zyv114, zyv114, zyv114, zyv114, zyv15, zyv15, zyv15, zyv15, zyv114, zyv114, zyv114])
noncomputable def zyr855 : List zC := [zyc60, zyc60, zyc60, zyc69, zyc10, zyc10, zyc10, zyc12, zyc70, zyc8, zyc8, zyc70, zyc8, zyc8, zyc929, zyc52]
noncomputable def zyh2057 : zH := (126, [zyr9, zyr10, zyr11, zyr12, zyr13, zyr855, zyr6, zyr7], zym9)
noncomputable def zyc930 : zC := .inr (8, [zyv114, zyv15, zyv15, zyv15, zyv114, zyv114, zyv114, zyv114, zyv15, zyv114, zyv15, zyv15, zyv127, zyv17, zyv317, zyv359, zyv124, zyv114, zyv114, zyv114, zyv15, zyv36, zyv129, zyv114, zyv15, zyv114, zyv114, zyv15, zyv15, zyv114, zyv114, zyv114, zyv114, zyv114, zyv114, zyv114, zyv114, zyv114, zyv114, zyv15, zyv114, zyv114, zyv114, zyv114, zyv15, zyv15, zyv15, zyv15, zyv114, zyv114, zyv114])
noncomputable def zyr856 : List zC := [zyc60, zyc60, zyc60, zyc69, zyc10, zyc10, zyc10, zyc12, zyc70, zyc8, zyc8, zyc70, zyc8, zyc8, zyc930, zyc52]
noncomputable def zyh2058 : zH := (126, [zyr9, zyr10, zyr11, zyr12, zyr13, zyr856, zyr6, zyr7], 0)
noncomputable def zyh2059 : zH := (126, [zyr9, zyr10, zyr11, zyr12, zyr13, zyr856, zyr6, zyr7], zym9)
noncomputable def zyc931 : zC := .inr (8, [zyv114, zyv15, zyv15, zyv15, zyv114, zyv114, zyv114, zyv114, zyv15, zyv114, zyv15, zyv15, zyv127, zyv17, zyv317, zyv317, zyv241, zyv114, zyv114, zyv114, zyv15, zyv36, zyv129, zyv114, zyv15, zyv114, zyv114, zyv15, zyv15, zyv114, zyv114, zyv114, zyv114, zyv114, zyv114, zyv114, zyv114, zyv114, zyv114, zyv15, zyv114, zyv114, zyv114, zyv114, zyv15, zyv15, zyv15, zyv15, zyv114, zyv114, zyv114])
noncomputable def zyr857 : List zC := [zyc60, zyc60, zyc60, zyc69, zyc10, zyc10, zyc10, zyc12, zyc70, zyc8, zyc8, zyc70, zyc8, zyc8, zyc931, zyc52]
noncomputable def zyh2060 : zH := (126, [zyr9, zyr10, zyr11, zyr12, zyr13, zyr857, zyr6, zyr7], zym9)
noncomputable def zyc932 : zC := .inr (8, [zyv114, zyv15, zyv15, zyv15, zyv114, zyv114, zyv114, zyv114, zyv15, zyv114, zyv15, zyv15, zyv127, zyv17, zyv317, zyv317, zyv124, zyv114, zyv114, zyv114, zyv15, zyv36, zyv129, zyv114, zyv15, zyv114, zyv114, zyv15, zyv15, zyv114, zyv114, zyv114, zyv114, zyv114, zyv114, zyv114, zyv114, zyv114, zyv114, zyv15, zyv114, zyv114, zyv114, zyv114, zyv15, zyv15, zyv15, zyv15, zyv114, zyv114, zyv114])
noncomputable def zyr858 : List zC := [zyc60, zyc60, zyc60, zyc69, zyc10, zyc10, zyc10, zyc12, zyc70, zyc8, zyc8, zyc70, zyc8, zyc8, zyc932, zyc52]
noncomputable def zyh2061 : zH := (126, [zyr9, zyr10, zyr11, zyr12, zyr13, zyr858, zyr6, zyr7], 0)
noncomputable def zyh2062 : zH := (126, [zyr9, zyr10, zyr11, zyr12, zyr13, zyr858, zyr6, zyr7], zym9)
noncomputable def zyc933 : zC := .inr (8, [zyv114, zyv15, zyv15, zyv15, zyv114, zyv114, zyv114, zyv114, zyv15, zyv114, zyv15, zyv15, zyv127, zyv17, zyv317, zyv359, zyv17, zyv114, zyv114, zyv114, zyv15, zyv36, zyv129, zyv114, zyv15, zyv114, zyv114, zyv15, zyv15, zyv114, zyv114, zyv114, zyv114, zyv114, zyv114, zyv114, zyv114, zyv114, zyv114, zyv15, zyv114, zyv114, zyv114, zyv114, zyv15, zyv15, zyv15, zyv15, zyv114, zyv114, zyv114])
noncomputable def zyr859 : List zC := [zyc60, zyc60, zyc60, zyc69, zyc10, zyc10, zyc10, zyc12, zyc70, zyc8, zyc8, zyc70, zyc8, zyc8, zyc933, zyc52]
noncomputable def zyh2063 : zH := (126, [zyr9, zyr10, zyr11, zyr12, zyr13, zyr859, zyr6, zyr7], zym9)
noncomputable def zyc934 : zC := .inr (8, [zyv114, zyv15, zyv15, zyv15, zyv114, zyv114, zyv114, zyv114, zyv15, zyv114, zyv15, zyv15, zyv127, zyv17, zyv317, zyv358, zyv17, zyv114, zyv114, zyv114, zyv15, zyv36, zyv129, zyv114, zyv15, zyv114, zyv114, zyv15, zyv15, zyv114, zyv114, zyv114, zyv114, zyv114, zyv114, zyv114, zyv114, zyv114, zyv114, zyv15, zyv114, zyv114, zyv114, zyv114, zyv15, zyv15, zyv15, zyv15, zyv114, zyv114, zyv114])
noncomputable def zyr860 : List zC := [zyc60, zyc60, zyc60, zyc69, zyc10, zyc10, zyc10, zyc12, zyc70, zyc8, zyc8, zyc70, zyc8, zyc8, zyc934, zyc52]
noncomputable def zyh2064 : zH := (126, [zyr9, zyr10, zyr11, zyr12, zyr13, zyr860, zyr6, zyr7], zym9)
noncomputable def zyc935 : zC := .inr (8, [zyv114, zyv15, zyv15, zyv15, zyv114, zyv114, zyv114, zyv114, zyv15, zyv114, zyv15, zyv15, zyv127, zyv17, zyv317, zyv357, zyv17, zyv114, zyv114, zyv114, zyv15, zyv36, zyv129, zyv114, zyv15, zyv114, zyv114, zyv15, zyv15, zyv114, zyv114, zyv114, zyv114, zyv114, zyv114, zyv114, zyv114, zyv114, zyv114, zyv15, zyv114, zyv114, zyv114, zyv114, zyv15, zyv15, zyv15, zyv15, zyv114, zyv114, zyv114])
noncomputable def zyr861 : List zC := [zyc60, zyc60, zyc60, zyc69, zyc10, zyc10, zyc10, zyc12, zyc70, zyc8, zyc8, zyc70, zyc8, zyc8, zyc935, zyc52]
noncomputable def zyh2065 : zH := (126, [zyr9, zyr10, zyr11, zyr12, zyr13, zyr861, zyr6, zyr7], zym9)
/-! X8_passes -/
noncomputable def zyx788a : List zAV := [zyv318, zyv319]
noncomputable def zyx788q : List (Option zAV × zH) := [(some (.inl ((.ofNat 0, .ofNat 0), none)), zyh1945), (some (.inl ((.ofNat 1, .ofNat 1), none)), zyh1946)]
noncomputable def zyx788d : zKw := (263, 2, 3, 420, zyx788a, zyh1944, zyx788q)
noncomputable def zbzyx788e : Bool := zrunw zprog2 (zovW []) 100000 zcut0 3 420 kX8_passes (zkinL zyx788q) 0 (zargs 0 zyx788a, [], (zyh1944.1, zyh1944.2.1, 0), 0, 0)
/-! X8_passes -/
noncomputable def zyx789a : List zAV := [zyv318, zyv321]
noncomputable def zyx789q : List (Option zAV × zH) := [(some (.inl ((.ofNat 0, .ofNat 0), none)), zyh1948), (some (.inl ((.ofNat 1, .ofNat 1), none)), zyh1949)]
noncomputable def zyx789d : zKw := (263, 2, 3, 420, zyx789a, zyh1947, zyx789q)
noncomputable def zbzyx789e : Bool := zrunw zprog2 (zovW []) 100000 zcut0 3 420 kX8_passes (zkinL zyx789q) 0 (zargs 0 zyx789a, [], (zyh1947.1, zyh1947.2.1, 0), 0, 0)
/-! X8_passes -/
noncomputable def zyx790a : List zAV := [zyv318, zyv321]
noncomputable def zyx790q : List (Option zAV × zH) := [(some (.inl ((.ofNat 0, .ofNat 0), none)), zyh1951), (some (.inl ((.ofNat 1, .ofNat 1), none)), zyh1952)]
noncomputable def zyx790d : zKw := (263, 2, 3, 420, zyx790a, zyh1950, zyx790q)
noncomputable def zbzyx790e : Bool := zrunw zprog2 (zovW []) 100000 zcut0 3 420 kX8_passes (zkinL zyx790q) 0 (zargs 0 zyx790a, [], (zyh1950.1, zyh1950.2.1, 0), 0, 0)
/-! X8_passes -/
noncomputable def zyx791a : List zAV := [zyv318, zyv321]
noncomputable def zyx791q : List (Option zAV × zH) := [(some (.inl ((.ofNat 0, .ofNat 0), none)), zyh1954), (some (.inl ((.ofNat 1, .ofNat 1), none)), zyh1955)]
noncomputable def zyx791d : zKw := (263, 2, 3, 420, zyx791a, zyh1953, zyx791q)
noncomputable def zbzyx791e : Bool := zrunw zprog2 (zovW []) 100000 zcut0 3 420 kX8_passes (zkinL zyx791q) 0 (zargs 0 zyx791a, [], (zyh1953.1, zyh1953.2.1, 0), 0, 0)
/-! X8_passes -/
noncomputable def zyx792a : List zAV := [zyv318, zyv321]
noncomputable def zyx792q : List (Option zAV × zH) := [(some (.inl ((.ofNat 0, .ofNat 0), none)), zyh1957), (some (.inl ((.ofNat 1, .ofNat 1), none)), zyh1958)]
noncomputable def zyx792d : zKw := (263, 2, 3, 420, zyx792a, zyh1956, zyx792q)
noncomputable def zbzyx792e : Bool := zrunw zprog2 (zovW []) 100000 zcut0 3 420 kX8_passes (zkinL zyx792q) 0 (zargs 0 zyx792a, [], (zyh1956.1, zyh1956.2.1, 0), 0, 0)
/-! X8_passes -/
noncomputable def zyx793a : List zAV := [zyv318, zyv321]
noncomputable def zyx793q : List (Option zAV × zH) := [(some (.inl ((.ofNat 0, .ofNat 0), none)), zyh1960), (some (.inl ((.ofNat 1, .ofNat 1), none)), zyh1961)]
noncomputable def zyx793d : zKw := (263, 2, 3, 420, zyx793a, zyh1959, zyx793q)
noncomputable def zbzyx793e : Bool := zrunw zprog2 (zovW []) 100000 zcut0 3 420 kX8_passes (zkinL zyx793q) 0 (zargs 0 zyx793a, [], (zyh1959.1, zyh1959.2.1, 0), 0, 0)
/-! X8_passes -/
noncomputable def zyx794a : List zAV := [zyv318, zyv321]
noncomputable def zyx794q : List (Option zAV × zH) := [(some (.inl ((.ofNat 0, .ofNat 0), none)), zyh1963), (some (.inl ((.ofNat 1, .ofNat 1), none)), zyh1964)]
noncomputable def zyx794d : zKw := (263, 2, 3, 420, zyx794a, zyh1962, zyx794q)
noncomputable def zbzyx794e : Bool := zrunw zprog2 (zovW []) 100000 zcut0 3 420 kX8_passes (zkinL zyx794q) 0 (zargs 0 zyx794a, [], (zyh1962.1, zyh1962.2.1, 0), 0, 0)
/-! X8_passes -/
noncomputable def zyx795a : List zAV := [zyv318, zyv321]
noncomputable def zyx795q : List (Option zAV × zH) := [(some (.inl ((.ofNat 0, .ofNat 0), none)), zyh1966), (some (.inl ((.ofNat 1, .ofNat 1), none)), zyh1967)]
noncomputable def zyx795d : zKw := (263, 2, 3, 420, zyx795a, zyh1965, zyx795q)
noncomputable def zbzyx795e : Bool := zrunw zprog2 (zovW []) 100000 zcut0 3 420 kX8_passes (zkinL zyx795q) 0 (zargs 0 zyx795a, [], (zyh1965.1, zyh1965.2.1, 0), 0, 0)
/-! X8_passes -/
noncomputable def zyx796a : List zAV := [zyv318, zyv321]
noncomputable def zyx796q : List (Option zAV × zH) := [(some (.inl ((.ofNat 0, .ofNat 0), none)), zyh1969), (some (.inl ((.ofNat 1, .ofNat 1), none)), zyh1970)]
noncomputable def zyx796d : zKw := (263, 2, 3, 420, zyx796a, zyh1968, zyx796q)
noncomputable def zbzyx796e : Bool := zrunw zprog2 (zovW []) 100000 zcut0 3 420 kX8_passes (zkinL zyx796q) 0 (zargs 0 zyx796a, [], (zyh1968.1, zyh1968.2.1, 0), 0, 0)
/-! X8_passes -/
noncomputable def zyx797a : List zAV := [zyv318, zyv321]
noncomputable def zyx797q : List (Option zAV × zH) := [(some (.inl ((.ofNat 0, .ofNat 0), none)), zyh1972), (some (.inl ((.ofNat 1, .ofNat 1), none)), zyh1973)]
noncomputable def zyx797d : zKw := (263, 2, 3, 420, zyx797a, zyh1971, zyx797q)
noncomputable def zbzyx797e : Bool := zrunw zprog2 (zovW []) 100000 zcut0 3 420 kX8_passes (zkinL zyx797q) 0 (zargs 0 zyx797a, [], (zyh1971.1, zyh1971.2.1, 0), 0, 0)
/-! X8_passes -/
noncomputable def zyx798a : List zAV := [zyv318, zyv321]
noncomputable def zyx798q : List (Option zAV × zH) := [(some (.inl ((.ofNat 0, .ofNat 0), none)), zyh1975), (some (.inl ((.ofNat 1, .ofNat 1), none)), zyh1976)]
noncomputable def zyx798d : zKw := (263, 2, 3, 420, zyx798a, zyh1974, zyx798q)
noncomputable def zbzyx798e : Bool := zrunw zprog2 (zovW []) 100000 zcut0 3 420 kX8_passes (zkinL zyx798q) 0 (zargs 0 zyx798a, [], (zyh1974.1, zyh1974.2.1, 0), 0, 0)
/-! X8_passes -/
noncomputable def zyx799a : List zAV := [zyv318, zyv321]
noncomputable def zyx799q : List (Option zAV × zH) := [(some (.inl ((.ofNat 0, .ofNat 0), none)), zyh1978), (some (.inl ((.ofNat 1, .ofNat 1), none)), zyh1979)]
noncomputable def zyx799d : zKw := (263, 2, 3, 420, zyx799a, zyh1977, zyx799q)
noncomputable def zbzyx799e : Bool := zrunw zprog2 (zovW []) 100000 zcut0 3 420 kX8_passes (zkinL zyx799q) 0 (zargs 0 zyx799a, [], (zyh1977.1, zyh1977.2.1, 0), 0, 0)
/-! X8_passes -/
noncomputable def zyx800a : List zAV := [zyv318, zyv321]
noncomputable def zyx800q : List (Option zAV × zH) := [(some (.inl ((.ofNat 0, .ofNat 0), none)), zyh1981), (some (.inl ((.ofNat 1, .ofNat 1), none)), zyh1982)]
noncomputable def zyx800d : zKw := (263, 2, 3, 420, zyx800a, zyh1980, zyx800q)
noncomputable def zbzyx800e : Bool := zrunw zprog2 (zovW []) 100000 zcut0 3 420 kX8_passes (zkinL zyx800q) 0 (zargs 0 zyx800a, [], (zyh1980.1, zyh1980.2.1, 0), 0, 0)
/-! X8_passes -/
noncomputable def zyx801a : List zAV := [zyv318, zyv321]
noncomputable def zyx801q : List (Option zAV × zH) := [(some (.inl ((.ofNat 0, .ofNat 0), none)), zyh1984), (some (.inl ((.ofNat 1, .ofNat 1), none)), zyh1985)]
noncomputable def zyx801d : zKw := (263, 2, 3, 420, zyx801a, zyh1983, zyx801q)
noncomputable def zbzyx801e : Bool := zrunw zprog2 (zovW []) 100000 zcut0 3 420 kX8_passes (zkinL zyx801q) 0 (zargs 0 zyx801a, [], (zyh1983.1, zyh1983.2.1, 0), 0, 0)
/-! X8_passes -/
noncomputable def zyx802a : List zAV := [zyv318, zyv321]
noncomputable def zyx802q : List (Option zAV × zH) := [(some (.inl ((.ofNat 0, .ofNat 0), none)), zyh1987), (some (.inl ((.ofNat 1, .ofNat 1), none)), zyh1988)]
noncomputable def zyx802d : zKw := (263, 2, 3, 420, zyx802a, zyh1986, zyx802q)
noncomputable def zbzyx802e : Bool := zrunw zprog2 (zovW []) 100000 zcut0 3 420 kX8_passes (zkinL zyx802q) 0 (zargs 0 zyx802a, [], (zyh1986.1, zyh1986.2.1, 0), 0, 0)
/-! X8_passes -/
noncomputable def zyx803a : List zAV := [zyv318, zyv321]
noncomputable def zyx803q : List (Option zAV × zH) := [(some (.inl ((.ofNat 0, .ofNat 0), none)), zyh1990), (some (.inl ((.ofNat 1, .ofNat 1), none)), zyh1991)]
noncomputable def zyx803d : zKw := (263, 2, 3, 420, zyx803a, zyh1989, zyx803q)
noncomputable def zbzyx803e : Bool := zrunw zprog2 (zovW []) 100000 zcut0 3 420 kX8_passes (zkinL zyx803q) 0 (zargs 0 zyx803a, [], (zyh1989.1, zyh1989.2.1, 0), 0, 0)
/-! X8_passes -/
noncomputable def zyx804a : List zAV := [zyv318, zyv321]
noncomputable def zyx804q : List (Option zAV × zH) := [(some (.inl ((.ofNat 0, .ofNat 0), none)), zyh1993), (some (.inl ((.ofNat 1, .ofNat 1), none)), zyh1994)]
noncomputable def zyx804d : zKw := (263, 2, 3, 420, zyx804a, zyh1992, zyx804q)
noncomputable def zbzyx804e : Bool := zrunw zprog2 (zovW []) 100000 zcut0 3 420 kX8_passes (zkinL zyx804q) 0 (zargs 0 zyx804a, [], (zyh1992.1, zyh1992.2.1, 0), 0, 0)
/-! X8_passes -/
noncomputable def zyx805a : List zAV := [zyv318, zyv321]
noncomputable def zyx805q : List (Option zAV × zH) := [(some (.inl ((.ofNat 0, .ofNat 0), none)), zyh1996), (some (.inl ((.ofNat 1, .ofNat 1), none)), zyh1997)]
noncomputable def zyx805d : zKw := (263, 2, 3, 420, zyx805a, zyh1995, zyx805q)
noncomputable def zbzyx805e : Bool := zrunw zprog2 (zovW []) 100000 zcut0 3 420 kX8_passes (zkinL zyx805q) 0 (zargs 0 zyx805a, [], (zyh1995.1, zyh1995.2.1, 0), 0, 0)
/-! X8_passes -/
noncomputable def zyx806a : List zAV := [zyv318, zyv321]
noncomputable def zyx806q : List (Option zAV × zH) := [(some (.inl ((.ofNat 0, .ofNat 0), none)), zyh1999), (some (.inl ((.ofNat 1, .ofNat 1), none)), zyh2000)]
noncomputable def zyx806d : zKw := (263, 2, 3, 420, zyx806a, zyh1998, zyx806q)
noncomputable def zbzyx806e : Bool := zrunw zprog2 (zovW []) 100000 zcut0 3 420 kX8_passes (zkinL zyx806q) 0 (zargs 0 zyx806a, [], (zyh1998.1, zyh1998.2.1, 0), 0, 0)
/-! X8_passes -/
noncomputable def zyx807a : List zAV := [zyv318, zyv321]
noncomputable def zyx807q : List (Option zAV × zH) := [(some (.inl ((.ofNat 0, .ofNat 0), none)), zyh2002), (some (.inl ((.ofNat 1, .ofNat 1), none)), zyh2003)]
noncomputable def zyx807d : zKw := (263, 2, 3, 420, zyx807a, zyh2001, zyx807q)
noncomputable def zbzyx807e : Bool := zrunw zprog2 (zovW []) 100000 zcut0 3 420 kX8_passes (zkinL zyx807q) 0 (zargs 0 zyx807a, [], (zyh2001.1, zyh2001.2.1, 0), 0, 0)
/-! X8_passes -/
noncomputable def zyx808a : List zAV := [zyv318, zyv321]
noncomputable def zyx808q : List (Option zAV × zH) := [(some (.inl ((.ofNat 0, .ofNat 0), none)), zyh2005), (some (.inl ((.ofNat 1, .ofNat 1), none)), zyh2006)]
noncomputable def zyx808d : zKw := (263, 2, 3, 420, zyx808a, zyh2004, zyx808q)
noncomputable def zbzyx808e : Bool := zrunw zprog2 (zovW []) 100000 zcut0 3 420 kX8_passes (zkinL zyx808q) 0 (zargs 0 zyx808a, [], (zyh2004.1, zyh2004.2.1, 0), 0, 0)
/-! X8_passes -/
noncomputable def zyx809a : List zAV := [zyv318, zyv321]
noncomputable def zyx809q : List (Option zAV × zH) := [(some (.inl ((.ofNat 0, .ofNat 0), none)), zyh2008), (some (.inl ((.ofNat 1, .ofNat 1), none)), zyh2009)]
noncomputable def zyx809d : zKw := (263, 2, 3, 420, zyx809a, zyh2007, zyx809q)
noncomputable def zbzyx809e : Bool := zrunw zprog2 (zovW []) 100000 zcut0 3 420 kX8_passes (zkinL zyx809q) 0 (zargs 0 zyx809a, [], (zyh2007.1, zyh2007.2.1, 0), 0, 0)
/-! X8_passes -/
noncomputable def zyx810a : List zAV := [zyv318, zyv321]
noncomputable def zyx810q : List (Option zAV × zH) := [(some (.inl ((.ofNat 0, .ofNat 0), none)), zyh2011), (some (.inl ((.ofNat 1, .ofNat 1), none)), zyh2012)]
noncomputable def zyx810d : zKw := (263, 2, 3, 420, zyx810a, zyh2010, zyx810q)
noncomputable def zbzyx810e : Bool := zrunw zprog2 (zovW []) 100000 zcut0 3 420 kX8_passes (zkinL zyx810q) 0 (zargs 0 zyx810a, [], (zyh2010.1, zyh2010.2.1, 0), 0, 0)
/-! X8_passes -/
noncomputable def zyx811a : List zAV := [zyv318, zyv321]
noncomputable def zyx811q : List (Option zAV × zH) := [(some (.inl ((.ofNat 0, .ofNat 0), none)), zyh2014), (some (.inl ((.ofNat 1, .ofNat 1), none)), zyh2015)]
noncomputable def zyx811d : zKw := (263, 2, 3, 420, zyx811a, zyh2013, zyx811q)
noncomputable def zbzyx811e : Bool := zrunw zprog2 (zovW []) 100000 zcut0 3 420 kX8_passes (zkinL zyx811q) 0 (zargs 0 zyx811a, [], (zyh2013.1, zyh2013.2.1, 0), 0, 0)
/-! X8_passes -/
noncomputable def zyx812a : List zAV := [zyv318, zyv321]
noncomputable def zyx812q : List (Option zAV × zH) := [(some (.inl ((.ofNat 0, .ofNat 0), none)), zyh2017), (some (.inl ((.ofNat 1, .ofNat 1), none)), zyh2018)]
noncomputable def zyx812d : zKw := (263, 2, 3, 420, zyx812a, zyh2016, zyx812q)
noncomputable def zbzyx812e : Bool := zrunw zprog2 (zovW []) 100000 zcut0 3 420 kX8_passes (zkinL zyx812q) 0 (zargs 0 zyx812a, [], (zyh2016.1, zyh2016.2.1, 0), 0, 0)
/-! X8_passes -/
noncomputable def zyx813a : List zAV := [zyv318, zyv321]
noncomputable def zyx813q : List (Option zAV × zH) := [(some (.inl ((.ofNat 0, .ofNat 0), none)), zyh2020), (some (.inl ((.ofNat 1, .ofNat 1), none)), zyh2021)]
noncomputable def zyx813d : zKw := (263, 2, 3, 420, zyx813a, zyh2019, zyx813q)
noncomputable def zbzyx813e : Bool := zrunw zprog2 (zovW []) 100000 zcut0 3 420 kX8_passes (zkinL zyx813q) 0 (zargs 0 zyx813a, [], (zyh2019.1, zyh2019.2.1, 0), 0, 0)
/-! X8_passes -/
noncomputable def zyx814a : List zAV := [zyv318, zyv321]
noncomputable def zyx814q : List (Option zAV × zH) := [(some (.inl ((.ofNat 0, .ofNat 0), none)), zyh2023), (some (.inl ((.ofNat 1, .ofNat 1), none)), zyh2024)]
noncomputable def zyx814d : zKw := (263, 2, 3, 420, zyx814a, zyh2022, zyx814q)
noncomputable def zbzyx814e : Bool := zrunw zprog2 (zovW []) 100000 zcut0 3 420 kX8_passes (zkinL zyx814q) 0 (zargs 0 zyx814a, [], (zyh2022.1, zyh2022.2.1, 0), 0, 0)
/-! X8_passes -/
noncomputable def zyx815a : List zAV := [zyv318, zyv321]
noncomputable def zyx815q : List (Option zAV × zH) := [(some (.inl ((.ofNat 0, .ofNat 0), none)), zyh2026), (some (.inl ((.ofNat 1, .ofNat 1), none)), zyh2027)]
noncomputable def zyx815d : zKw := (263, 2, 3, 420, zyx815a, zyh2025, zyx815q)
noncomputable def zbzyx815e : Bool := zrunw zprog2 (zovW []) 100000 zcut0 3 420 kX8_passes (zkinL zyx815q) 0 (zargs 0 zyx815a, [], (zyh2025.1, zyh2025.2.1, 0), 0, 0)
/-! X8_passes -/
noncomputable def zyx816a : List zAV := [zyv318, zyv321]
noncomputable def zyx816q : List (Option zAV × zH) := [(some (.inl ((.ofNat 0, .ofNat 0), none)), zyh2029), (some (.inl ((.ofNat 1, .ofNat 1), none)), zyh2030)]
noncomputable def zyx816d : zKw := (263, 2, 3, 420, zyx816a, zyh2028, zyx816q)
noncomputable def zbzyx816e : Bool := zrunw zprog2 (zovW []) 100000 zcut0 3 420 kX8_passes (zkinL zyx816q) 0 (zargs 0 zyx816a, [], (zyh2028.1, zyh2028.2.1, 0), 0, 0)
/-! X8_passes -/
noncomputable def zyx817a : List zAV := [zyv318, zyv321]
noncomputable def zyx817q : List (Option zAV × zH) := [(some (.inl ((.ofNat 0, .ofNat 0), none)), zyh2032), (some (.inl ((.ofNat 1, .ofNat 1), none)), zyh2033)]
noncomputable def zyx817d : zKw := (263, 2, 3, 420, zyx817a, zyh2031, zyx817q)
noncomputable def zbzyx817e : Bool := zrunw zprog2 (zovW []) 100000 zcut0 3 420 kX8_passes (zkinL zyx817q) 0 (zargs 0 zyx817a, [], (zyh2031.1, zyh2031.2.1, 0), 0, 0)
/-! X8_passes -/
noncomputable def zyx818a : List zAV := [zyv318, zyv321]
noncomputable def zyx818q : List (Option zAV × zH) := [(some (.inl ((.ofNat 0, .ofNat 0), none)), zyh2035), (some (.inl ((.ofNat 1, .ofNat 1), none)), zyh2036)]
noncomputable def zyx818d : zKw := (263, 2, 3, 420, zyx818a, zyh2034, zyx818q)
noncomputable def zbzyx818e : Bool := zrunw zprog2 (zovW []) 100000 zcut0 3 420 kX8_passes (zkinL zyx818q) 0 (zargs 0 zyx818a, [], (zyh2034.1, zyh2034.2.1, 0), 0, 0)
/-! X8_passes -/
noncomputable def zyx819a : List zAV := [zyv318, zyv321]
noncomputable def zyx819q : List (Option zAV × zH) := [(some (.inl ((.ofNat 0, .ofNat 0), none)), zyh2038), (some (.inl ((.ofNat 1, .ofNat 1), none)), zyh2039)]
noncomputable def zyx819d : zKw := (263, 2, 3, 420, zyx819a, zyh2037, zyx819q)
noncomputable def zbzyx819e : Bool := zrunw zprog2 (zovW []) 100000 zcut0 3 420 kX8_passes (zkinL zyx819q) 0 (zargs 0 zyx819a, [], (zyh2037.1, zyh2037.2.1, 0), 0, 0)
/-! X8_passes -/
noncomputable def zyx820a : List zAV := [zyv318, zyv321]
noncomputable def zyx820q : List (Option zAV × zH) := [(some (.inl ((.ofNat 0, .ofNat 0), none)), zyh2041), (some (.inl ((.ofNat 1, .ofNat 1), none)), zyh2042)]
noncomputable def zyx820d : zKw := (263, 2, 3, 420, zyx820a, zyh2040, zyx820q)
noncomputable def zbzyx820e : Bool := zrunw zprog2 (zovW []) 100000 zcut0 3 420 kX8_passes (zkinL zyx820q) 0 (zargs 0 zyx820a, [], (zyh2040.1, zyh2040.2.1, 0), 0, 0)
/-! X8_passes -/
noncomputable def zyx821a : List zAV := [zyv318, zyv321]
noncomputable def zyx821q : List (Option zAV × zH) := [(some (.inl ((.ofNat 0, .ofNat 0), none)), zyh2044), (some (.inl ((.ofNat 1, .ofNat 1), none)), zyh2045)]
noncomputable def zyx821d : zKw := (263, 2, 3, 420, zyx821a, zyh2043, zyx821q)
noncomputable def zbzyx821e : Bool := zrunw zprog2 (zovW []) 100000 zcut0 3 420 kX8_passes (zkinL zyx821q) 0 (zargs 0 zyx821a, [], (zyh2043.1, zyh2043.2.1, 0), 0, 0)
/-! X8_passes -/
noncomputable def zyx822a : List zAV := [zyv318, zyv321]
noncomputable def zyx822q : List (Option zAV × zH) := [(some (.inl ((.ofNat 0, .ofNat 0), none)), zyh2047), (some (.inl ((.ofNat 1, .ofNat 1), none)), zyh2048)]
noncomputable def zyx822d : zKw := (263, 2, 3, 420, zyx822a, zyh2046, zyx822q)
noncomputable def zbzyx822e : Bool := zrunw zprog2 (zovW []) 100000 zcut0 3 420 kX8_passes (zkinL zyx822q) 0 (zargs 0 zyx822a, [], (zyh2046.1, zyh2046.2.1, 0), 0, 0)
/-! X8_passes -/
noncomputable def zyx823a : List zAV := [zyv318, zyv321]
noncomputable def zyx823q : List (Option zAV × zH) := [(some (.inl ((.ofNat 0, .ofNat 0), none)), zyh2050), (some (.inl ((.ofNat 1, .ofNat 1), none)), zyh2051)]
noncomputable def zyx823d : zKw := (263, 2, 3, 420, zyx823a, zyh2049, zyx823q)
noncomputable def zbzyx823e : Bool := zrunw zprog2 (zovW []) 100000 zcut0 3 420 kX8_passes (zkinL zyx823q) 0 (zargs 0 zyx823a, [], (zyh2049.1, zyh2049.2.1, 0), 0, 0)
/-! X8_passes -/
noncomputable def zyx824a : List zAV := [zyv318, zyv321]
noncomputable def zyx824q : List (Option zAV × zH) := [(some (.inl ((.ofNat 0, .ofNat 0), none)), zyh2053), (some (.inl ((.ofNat 1, .ofNat 1), none)), zyh2054)]
noncomputable def zyx824d : zKw := (263, 2, 3, 420, zyx824a, zyh2052, zyx824q)
noncomputable def zbzyx824e : Bool := zrunw zprog2 (zovW []) 100000 zcut0 3 420 kX8_passes (zkinL zyx824q) 0 (zargs 0 zyx824a, [], (zyh2052.1, zyh2052.2.1, 0), 0, 0)
/-! X8_passes -/
noncomputable def zyx825a : List zAV := [zyv318, zyv321]
noncomputable def zyx825q : List (Option zAV × zH) := [(some (.inl ((.ofNat 0, .ofNat 0), none)), zyh2056), (some (.inl ((.ofNat 1, .ofNat 1), none)), zyh2057)]
noncomputable def zyx825d : zKw := (263, 2, 3, 420, zyx825a, zyh2055, zyx825q)
noncomputable def zbzyx825e : Bool := zrunw zprog2 (zovW []) 100000 zcut0 3 420 kX8_passes (zkinL zyx825q) 0 (zargs 0 zyx825a, [], (zyh2055.1, zyh2055.2.1, 0), 0, 0)
/-! X8_passes -/
noncomputable def zyx826a : List zAV := [zyv318, zyv321]
noncomputable def zyx826q : List (Option zAV × zH) := [(some (.inl ((.ofNat 0, .ofNat 0), none)), zyh2059), (some (.inl ((.ofNat 1, .ofNat 1), none)), zyh2060)]
noncomputable def zyx826d : zKw := (263, 2, 3, 420, zyx826a, zyh2058, zyx826q)
noncomputable def zbzyx826e : Bool := zrunw zprog2 (zovW []) 100000 zcut0 3 420 kX8_passes (zkinL zyx826q) 0 (zargs 0 zyx826a, [], (zyh2058.1, zyh2058.2.1, 0), 0, 0)
/-! X8_passes -/
noncomputable def zyx827a : List zAV := [zyv318, zyv321]
noncomputable def zyx827q : List (Option zAV × zH) := [(some (.inl ((.ofNat 0, .ofNat 0), none)), zyh2062)]
noncomputable def zyx827d : zKw := (263, 2, 3, 420, zyx827a, zyh2061, zyx827q)
noncomputable def zbzyx827e : Bool := zrunw zprog2 (zovW []) 100000 zcut0 3 420 kX8_passes (zkinL zyx827q) 0 (zargs 0 zyx827a, [], (zyh2061.1, zyh2061.2.1, 0), 0, 0)
/-! X8_thing -/
noncomputable def zyx828a : List zAV := [.inr (.inr (.inl 94)), .inl ((.ofNat 0, .ofNat 4), none)]
def zyx828r : Option zAV := some (.inl ((.negSucc 2147483647, .ofNat 2147483647), none))
noncomputable def zyx828d : zKw := (292, 4, 4, 540, zyx828a, zyh2061, [(zyx828r, zyh2062)])
noncomputable def zbzyx828e : Bool := zrunw zprog2 (zovW [zyx827d]) 100000 (zcutW [] none ((zyx828r, zyh2062), 4, 540) []) 4 540 k2X8_thing (zkin zyx828r zyh2062) 0 (zargs 0 zyx828a, [], (zyh2061.1, zyh2061.2.1, 0), 0, 0)
/-! X8_product ((('r', 103), 40, 40),) -/
noncomputable def zyx829a : List zAV := [.inr (.inr (.inl 94)), .inl ((.ofNat 0, .ofNat 4), none)]
def zyx829r : Option zAV := some (.inl ((.negSucc 2147483647, .ofNat 2147483647), none))
noncomputable def zyx829q : zPw := ((6, ([(0, .inr (.inr (.inl 94))), (1, .inl ((.ofNat 0, .ofNat 4), some (1, .ofNat 0))), (2, .inl ((.negSucc 2147483647, .ofNat 2147483647), some (2, .ofNat 0)))], [], zyh2062, 0, 0), [], 0), (zyx829r, zyh2062), 5, 660)
noncomputable def zbzyx829c : Bool := zchkX [(94, 15)] zprog2 (zovW [zyx828d]) 100000 k2X8_product [] [zyx829q] [zyx829q]
noncomputable def zyx829d : zKw := (265, 5, 5, 660, zyx829a, zyh2061, [(zyx829r, zyh2062)])
noncomputable def zbzyx829e : Bool := zrunw zprog2 (zovW [zyx828d]) 100000 (zcutW [(94, 15)] none ((zyx829r, zyh2062), 5, 660) [zyx829q]) 5 660 k2X8_product (zkin zyx829r zyh2062) 0 (zargs 0 zyx829a, [], (zyh2061.1, zyh2061.2.1, 0), 0, 0)
/-! X8_sum ((('r', 103), 40, 40),) -/
noncomputable def zyx830a : List zAV := [.inr (.inr (.inl 94)), .inl ((.ofNat 1, .ofNat 4), none)]
def zyx830r : Option zAV := some (.inl ((.negSucc 2147483647, .ofNat 2147483647), none))
noncomputable def zyx830q : zPw := ((6, ([(0, .inr (.inr (.inl 94))), (1, .inl ((.ofNat 0, .ofNat 4), some (1, .ofNat 0))), (2, .inl ((.negSucc 2147483647, .ofNat 2147483647), some (2, .ofNat 0)))], [], zyh2062, 0, 0), [], 0), (zyx830r, zyh2062), 6, 780)
noncomputable def zbzyx830c : Bool := zchkX [(94, 15)] zprog2 (zovW [zyx829d]) 100000 kX8_sum [] [zyx830q] [zyx830q]
noncomputable def zyx830d : zKw := (284, 5, 6, 780, zyx830a, zyh2061, [(zyx830r, zyh2062)])
noncomputable def zbzyx830e : Bool := zrunw zprog2 (zovW [zyx829d]) 100000 (zcutW [(94, 15)] none ((zyx830r, zyh2062), 6, 780) [zyx830q]) 6 780 kX8_sum (zkin zyx830r zyh2062) 0 (zargs 0 zyx830a, [], (zyh2061.1, zyh2061.2.1, 0), 0, 0)
/-! X8_heldBy -/
noncomputable def zyx831a : List zAV := [.inr (.inr (.inl 94)), .inl ((.ofNat 1, .ofNat 4), none)]
def zyx831r : Option zAV := some (.inl ((.negSucc 2147483647, .ofNat 2147483647), none))
noncomputable def zyx831d : zKw := (229, 3, 7, 900, zyx831a, zyh2061, [(zyx831r, zyh2062)])
noncomputable def zbzyx831e : Bool := zrunw zprog2 (zovW [zyx830d, zyx827d]) 100000 (zcutW [] none ((zyx831r, zyh2062), 7, 900) []) 7 900 kX8_heldBy (zkin zyx831r zyh2062) 0 (zargs 0 zyx831a, [], (zyh2061.1, zyh2061.2.1, 0), 0, 0)
/-! X8_oneOf -/
noncomputable def zyx832a : List zAV := [zyv318, zyv360, zyv361]
noncomputable def zyx832q : List (Option zAV × zH) := [(some (.inl ((.ofNat 0, .ofNat 0), none)), zyh2063), (some (.inl ((.negSucc 175, .ofNat 79), none)), zyh2060)]
noncomputable def zyx832d : zKw := (260, 3, 4, 480, zyx832a, zyh2058, zyx832q)
noncomputable def zbzyx832e : Bool := zrunw zprog2 (zovW []) 100000 zcut0 4 480 kX8_oneOf (zkinL zyx832q) 0 (zargs 0 zyx832a, [], (zyh2058.1, zyh2058.2.1, 0), 0, 0)
/-! X8_number -/
noncomputable def zyx833a : List zAV := [.inr (.inr (.inl 94)), .inl ((.ofNat 3, .ofNat 3), none)]
def zyx833r : Option zAV := some (.inl ((.negSucc 2147483647, .ofNat 2147483647), none))
noncomputable def zyx833q0 : zPw := ((11, ([(0, .inr (.inr (.inl 94))), (1, .inl ((.ofNat 3, .ofNat 3), some (1, .ofNat 0))), (2, .inl ((.negSucc 2147483647, .ofNat 2147483647), some (2, .ofNat 0))), (3, .inl ((.ofNat 1, .ofNat 3), some (3, .ofNat 0)))], [], zyh2059, 0, 0), [(3, .negSucc 1)], .ofNat 7), (zyx833r, zyh2059), 5, 600)
noncomputable def zbzyx833c0 : Bool := zchkX [] zprog2 (zovW [zyx832d]) 100000 kX8_number [] [zyx833q0] [zyx833q0]
noncomputable def zyx833d : zKw := (259, 4, 5, 600, zyx833a, zyh2058, [(zyx833r, zyh2059)])
noncomputable def zbzyx833e : Bool := zrunw zprog2 (zovW [zyx832d]) 100000 (zcutW [] none ((zyx833r, zyh2059), 5, 600) [zyx833q0]) 5 600 kX8_number (zkin zyx833r zyh2059) 0 (zargs 0 zyx833a, [], (zyh2058.1, zyh2058.2.1, 0), 0, 0)
/-! X8_thing -/
noncomputable def zyx834a : List zAV := [.inr (.inr (.inl 94)), .inl ((.ofNat 0, .ofNat 4), none)]
def zyx834r : Option zAV := some (.inl ((.negSucc 2147483647, .ofNat 2147483647), none))
noncomputable def zyx834d : zKw := (292, 4, 8, 1020, zyx834a, zyh2058, [(zyx834r, zyh2059)])
noncomputable def zbzyx834e : Bool := zrunw zprog2 (zovW [zyx831d, zyx828d, zyx827d, zyx833d, zyx826d]) 100000 (zcutW [] none ((zyx834r, zyh2059), 8, 1020) []) 8 1020 k2X8_thing (zkin zyx834r zyh2059) 0 (zargs 0 zyx834a, [], (zyh2058.1, zyh2058.2.1, 0), 0, 0)
/-! X8_product ((('r', 103), 40, 39),) -/
noncomputable def zyx835a : List zAV := [.inr (.inr (.inl 94)), .inl ((.ofNat 0, .ofNat 4), none)]
def zyx835r : Option zAV := some (.inl ((.negSucc 2147483647, .ofNat 2147483647), none))
noncomputable def zyx835q : zPw := ((6, ([(0, .inr (.inr (.inl 94))), (1, .inl ((.ofNat 0, .ofNat 4), some (1, .ofNat 0))), (2, .inl ((.negSucc 2147483647, .ofNat 2147483647), some (2, .ofNat 0)))], [], zyh2059, 0, 0), [], 0), (zyx835r, zyh2059), 9, 1140)
noncomputable def zbzyx835c : Bool := zchkX [(94, 15)] zprog2 (zovW [zyx828d, zyx834d]) 100000 k2X8_product [zyx829q] [zyx835q] [zyx835q]
noncomputable def zyx835d : zKw := (265, 5, 9, 1140, zyx835a, zyh2058, [(zyx835r, zyh2059)])
noncomputable def zbzyx835e : Bool := zrunw zprog2 (zovW [zyx828d, zyx834d]) 100000 (zcutW [(94, 15)] none ((zyx835r, zyh2059), 9, 1140) [zyx835q, zyx829q]) 9 1140 k2X8_product (zkin zyx835r zyh2059) 0 (zargs 0 zyx835a, [], (zyh2058.1, zyh2058.2.1, 0), 0, 0)
/-! X8_sum ((('r', 103), 40, 39),) -/
noncomputable def zyx836a : List zAV := [.inr (.inr (.inl 94)), .inl ((.ofNat 1, .ofNat 4), none)]
def zyx836r : Option zAV := some (.inl ((.negSucc 2147483647, .ofNat 2147483647), none))
noncomputable def zyx836q : zPw := ((6, ([(0, .inr (.inr (.inl 94))), (1, .inl ((.ofNat 0, .ofNat 4), some (1, .ofNat 0))), (2, .inl ((.negSucc 2147483647, .ofNat 2147483647), some (2, .ofNat 0)))], [], zyh2059, 0, 0), [], 0), (zyx836r, zyh2059), 10, 1260)
noncomputable def zbzyx836c : Bool := zchkX [(94, 15)] zprog2 (zovW [zyx829d, zyx835d]) 100000 kX8_sum [zyx830q] [zyx836q] [zyx836q]
noncomputable def zyx836d : zKw := (284, 5, 10, 1260, zyx836a, zyh2058, [(zyx836r, zyh2059)])
noncomputable def zbzyx836e : Bool := zrunw zprog2 (zovW [zyx829d, zyx835d]) 100000 (zcutW [(94, 15)] none ((zyx836r, zyh2059), 10, 1260) [zyx836q, zyx830q]) 10 1260 kX8_sum (zkin zyx836r zyh2059) 0 (zargs 0 zyx836a, [], (zyh2058.1, zyh2058.2.1, 0), 0, 0)
/-! X8_heldBy -/
noncomputable def zyx837a : List zAV := [.inr (.inr (.inl 94)), .inl ((.ofNat 1, .ofNat 4), none)]
def zyx837r : Option zAV := some (.inl ((.negSucc 2147483647, .ofNat 2147483647), none))
noncomputable def zyx837d : zKw := (229, 3, 11, 1380, zyx837a, zyh2058, [(zyx837r, zyh2059)])
noncomputable def zbzyx837e : Bool := zrunw zprog2 (zovW [zyx830d, zyx836d, zyx826d]) 100000 (zcutW [] none ((zyx837r, zyh2059), 11, 1380) []) 11 1380 kX8_heldBy (zkin zyx837r zyh2059) 0 (zargs 0 zyx837a, [], (zyh2058.1, zyh2058.2.1, 0), 0, 0)
/-! X8_oneOf -/
noncomputable def zyx838a : List zAV := [zyv318, zyv360, zyv361]
noncomputable def zyx838q : List (Option zAV × zH) := [(some (.inl ((.ofNat 0, .ofNat 0), none)), zyh2064), (some (.inl ((.negSucc 175, .ofNat 79), none)), zyh2057)]
noncomputable def zyx838d : zKw := (260, 3, 4, 480, zyx838a, zyh2055, zyx838q)
noncomputable def zbzyx838e : Bool := zrunw zprog2 (zovW []) 100000 zcut0 4 480 kX8_oneOf (zkinL zyx838q) 0 (zargs 0 zyx838a, [], (zyh2055.1, zyh2055.2.1, 0), 0, 0)
/-! X8_number -/
noncomputable def zyx839a : List zAV := [.inr (.inr (.inl 94)), .inl ((.ofNat 3, .ofNat 3), none)]
def zyx839r : Option zAV := some (.inl ((.negSucc 2147483647, .ofNat 2147483647), none))
noncomputable def zyx839q0 : zPw := ((11, ([(0, .inr (.inr (.inl 94))), (1, .inl ((.ofNat 3, .ofNat 3), some (1, .ofNat 0))), (2, .inl ((.negSucc 2147483647, .ofNat 2147483647), some (2, .ofNat 0))), (3, .inl ((.ofNat 1, .ofNat 3), some (3, .ofNat 0)))], [], zyh2056, 0, 0), [(3, .negSucc 1)], .ofNat 7), (zyx839r, zyh2056), 5, 600)
noncomputable def zbzyx839c0 : Bool := zchkX [] zprog2 (zovW [zyx838d]) 100000 kX8_number [] [zyx839q0] [zyx839q0]
noncomputable def zyx839d : zKw := (259, 4, 5, 600, zyx839a, zyh2055, [(zyx839r, zyh2056)])
noncomputable def zbzyx839e : Bool := zrunw zprog2 (zovW [zyx838d]) 100000 (zcutW [] none ((zyx839r, zyh2056), 5, 600) [zyx839q0]) 5 600 kX8_number (zkin zyx839r zyh2056) 0 (zargs 0 zyx839a, [], (zyh2055.1, zyh2055.2.1, 0), 0, 0)
/-! X8_thing -/
noncomputable def zyx840a : List zAV := [.inr (.inr (.inl 94)), .inl ((.ofNat 0, .ofNat 4), none)]
def zyx840r : Option zAV := some (.inl ((.negSucc 2147483647, .ofNat 2147483647), none))
noncomputable def zyx840d : zKw := (292, 4, 12, 1500, zyx840a, zyh2055, [(zyx840r, zyh2056)])
noncomputable def zbzyx840e : Bool := zrunw zprog2 (zovW [zyx837d, zyx834d, zyx826d, zyx839d, zyx825d]) 100000 (zcutW [] none ((zyx840r, zyh2056), 12, 1500) []) 12 1500 k2X8_thing (zkin zyx840r zyh2056) 0 (zargs 0 zyx840a, [], (zyh2055.1, zyh2055.2.1, 0), 0, 0)
/-! X8_product ((('r', 103), 40, 38),) -/
noncomputable def zyx841a : List zAV := [.inr (.inr (.inl 94)), .inl ((.ofNat 0, .ofNat 4), none)]
def zyx841r : Option zAV := some (.inl ((.negSucc 2147483647, .ofNat 2147483647), none))
noncomputable def zyx841q : zPw := ((6, ([(0, .inr (.inr (.inl 94))), (1, .inl ((.ofNat 0, .ofNat 4), some (1, .ofNat 0))), (2, .inl ((.negSucc 2147483647, .ofNat 2147483647), some (2, .ofNat 0)))], [], zyh2056, 0, 0), [], 0), (zyx841r, zyh2056), 13, 1620)
noncomputable def zbzyx841c : Bool := zchkX [(94, 15)] zprog2 (zovW [zyx834d, zyx840d]) 100000 k2X8_product [zyx835q, zyx829q] [zyx841q] [zyx841q]
noncomputable def zyx841d : zKw := (265, 5, 13, 1620, zyx841a, zyh2055, [(zyx841r, zyh2056)])
noncomputable def zbzyx841e : Bool := zrunw zprog2 (zovW [zyx834d, zyx840d]) 100000 (zcutW [(94, 15)] none ((zyx841r, zyh2056), 13, 1620) [zyx841q, zyx835q, zyx829q]) 13 1620 k2X8_product (zkin zyx841r zyh2056) 0 (zargs 0 zyx841a, [], (zyh2055.1, zyh2055.2.1, 0), 0, 0)
/-! X8_sum ((('r', 103), 40, 38),) -/
noncomputable def zyx842a : List zAV := [.inr (.inr (.inl 94)), .inl ((.ofNat 1, .ofNat 4), none)]
def zyx842r : Option zAV := some (.inl ((.negSucc 2147483647, .ofNat 2147483647), none))
noncomputable def zyx842q : zPw := ((6, ([(0, .inr (.inr (.inl 94))), (1, .inl ((.ofNat 0, .ofNat 4), some (1, .ofNat 0))), (2, .inl ((.negSucc 2147483647, .ofNat 2147483647), some (2, .ofNat 0)))], [], zyh2056, 0, 0), [], 0), (zyx842r, zyh2056), 14, 1740)
noncomputable def zbzyx842c : Bool := zchkX [(94, 15)] zprog2 (zovW [zyx835d, zyx841d]) 100000 kX8_sum [zyx836q, zyx830q] [zyx842q] [zyx842q]
noncomputable def zyx842d : zKw := (284, 5, 14, 1740, zyx842a, zyh2055, [(zyx842r, zyh2056)])
noncomputable def zbzyx842e : Bool := zrunw zprog2 (zovW [zyx835d, zyx841d]) 100000 (zcutW [(94, 15)] none ((zyx842r, zyh2056), 14, 1740) [zyx842q, zyx836q, zyx830q]) 14 1740 kX8_sum (zkin zyx842r zyh2056) 0 (zargs 0 zyx842a, [], (zyh2055.1, zyh2055.2.1, 0), 0, 0)
/-! X8_heldBy -/
noncomputable def zyx843a : List zAV := [.inr (.inr (.inl 94)), .inl ((.ofNat 1, .ofNat 4), none)]
def zyx843r : Option zAV := some (.inl ((.negSucc 2147483647, .ofNat 2147483647), none))
noncomputable def zyx843d : zKw := (229, 3, 15, 1860, zyx843a, zyh2055, [(zyx843r, zyh2056)])
noncomputable def zbzyx843e : Bool := zrunw zprog2 (zovW [zyx836d, zyx842d, zyx825d]) 100000 (zcutW [] none ((zyx843r, zyh2056), 15, 1860) []) 15 1860 kX8_heldBy (zkin zyx843r zyh2056) 0 (zargs 0 zyx843a, [], (zyh2055.1, zyh2055.2.1, 0), 0, 0)
/-! X8_oneOf -/
noncomputable def zyx844a : List zAV := [zyv318, zyv360, zyv361]
noncomputable def zyx844q : List (Option zAV × zH) := [(some (.inl ((.ofNat 0, .ofNat 0), none)), zyh2065), (some (.inl ((.negSucc 175, .ofNat 79), none)), zyh2054)]
noncomputable def zyx844d : zKw := (260, 3, 4, 480, zyx844a, zyh2052, zyx844q)
noncomputable def zbzyx844e : Bool := zrunw zprog2 (zovW []) 100000 zcut0 4 480 kX8_oneOf (zkinL zyx844q) 0 (zargs 0 zyx844a, [], (zyh2052.1, zyh2052.2.1, 0), 0, 0)
/-! X8_number -/
noncomputable def zyx845a : List zAV := [.inr (.inr (.inl 94)), .inl ((.ofNat 3, .ofNat 3), none)]
def zyx845r : Option zAV := some (.inl ((.negSucc 2147483647, .ofNat 2147483647), none))
noncomputable def zyx845q0 : zPw := ((11, ([(0, .inr (.inr (.inl 94))), (1, .inl ((.ofNat 3, .ofNat 3), some (1, .ofNat 0))), (2, .inl ((.negSucc 2147483647, .ofNat 2147483647), some (2, .ofNat 0))), (3, .inl ((.ofNat 1, .ofNat 3), some (3, .ofNat 0)))], [], zyh2053, 0, 0), [(3, .negSucc 1)], .ofNat 7), (zyx845r, zyh2053), 5, 600)
noncomputable def zbzyx845c0 : Bool := zchkX [] zprog2 (zovW [zyx844d]) 100000 kX8_number [] [zyx845q0] [zyx845q0]
noncomputable def zyx845d : zKw := (259, 4, 5, 600, zyx845a, zyh2052, [(zyx845r, zyh2053)])
noncomputable def zbzyx845e : Bool := zrunw zprog2 (zovW [zyx844d]) 100000 (zcutW [] none ((zyx845r, zyh2053), 5, 600) [zyx845q0]) 5 600 kX8_number (zkin zyx845r zyh2053) 0 (zargs 0 zyx845a, [], (zyh2052.1, zyh2052.2.1, 0), 0, 0)
/-! X8_thing -/
noncomputable def zyx846a : List zAV := [.inr (.inr (.inl 94)), .inl ((.ofNat 0, .ofNat 4), none)]
def zyx846r : Option zAV := some (.inl ((.negSucc 2147483647, .ofNat 2147483647), none))
noncomputable def zyx846d : zKw := (292, 4, 16, 1980, zyx846a, zyh2052, [(zyx846r, zyh2053)])
noncomputable def zbzyx846e : Bool := zrunw zprog2 (zovW [zyx843d, zyx840d, zyx825d, zyx845d, zyx824d]) 100000 (zcutW [] none ((zyx846r, zyh2053), 16, 1980) []) 16 1980 k2X8_thing (zkin zyx846r zyh2053) 0 (zargs 0 zyx846a, [], (zyh2052.1, zyh2052.2.1, 0), 0, 0)
/-! X8_product ((('r', 103), 40, 37),) -/
noncomputable def zyx847a : List zAV := [.inr (.inr (.inl 94)), .inl ((.ofNat 0, .ofNat 4), none)]
def zyx847r : Option zAV := some (.inl ((.negSucc 2147483647, .ofNat 2147483647), none))
noncomputable def zyx847q : zPw := ((6, ([(0, .inr (.inr (.inl 94))), (1, .inl ((.ofNat 0, .ofNat 4), some (1, .ofNat 0))), (2, .inl ((.negSucc 2147483647, .ofNat 2147483647), some (2, .ofNat 0)))], [], zyh2053, 0, 0), [], 0), (zyx847r, zyh2053), 17, 2100)
noncomputable def zbzyx847c : Bool := zchkX [(94, 15)] zprog2 (zovW [zyx840d, zyx846d]) 100000 k2X8_product [zyx841q, zyx835q, zyx829q] [zyx847q] [zyx847q]
noncomputable def zyx847d : zKw := (265, 5, 17, 2100, zyx847a, zyh2052, [(zyx847r, zyh2053)])
noncomputable def zbzyx847e : Bool := zrunw zprog2 (zovW [zyx840d, zyx846d]) 100000 (zcutW [(94, 15)] none ((zyx847r, zyh2053), 17, 2100) [zyx847q, zyx841q, zyx835q, zyx829q]) 17 2100 k2X8_product (zkin zyx847r zyh2053) 0 (zargs 0 zyx847a, [], (zyh2052.1, zyh2052.2.1, 0), 0, 0)
noncomputable def zyg43 : List Bool := [zbzyx788e, zbzyx789e, zbzyx790e, zbzyx791e, zbzyx792e, zbzyx793e, zbzyx794e, zbzyx795e, zbzyx796e, zbzyx797e, zbzyx798e, zbzyx799e, zbzyx800e, zbzyx801e, zbzyx802e, zbzyx803e, zbzyx804e, zbzyx805e, zbzyx806e, zbzyx807e, zbzyx808e, zbzyx809e, zbzyx810e, zbzyx811e, zbzyx812e, zbzyx813e, zbzyx814e, zbzyx815e, zbzyx816e, zbzyx817e, zbzyx818e, zbzyx819e, zbzyx820e, zbzyx821e, zbzyx822e, zbzyx823e, zbzyx824e, zbzyx825e, zbzyx826e, zbzyx827e, zbzyx828e, zbzyx829c, zbzyx829e, zbzyx830c, zbzyx830e, zbzyx831e, zbzyx832e, zbzyx833c0, zbzyx833e, zbzyx834e, zbzyx835c, zbzyx835e, zbzyx836c, zbzyx836e, zbzyx837e, zbzyx838e, zbzyx839c0, zbzyx839e, zbzyx840e, zbzyx841c, zbzyx841e, zbzyx842c, zbzyx842e, zbzyx843e, zbzyx844e, zbzyx845c0, zbzyx845e, zbzyx846e, zbzyx847c, zbzyx847e]
set_option maxRecDepth 100000 in
theorem zyg43_ok : zall (fun b => b) zyg43 = true := by decide +kernel
theorem zyx788e : zrunw zprog2 (zovW []) 100000 zcut0 3 420 kX8_passes (zkinL zyx788q) 0 (zargs 0 zyx788a, [], (zyh1944.1, zyh1944.2.1, 0), 0, 0) = true := zall_ok zyg43_ok (k := 0) (a := zbzyx788e) rfl
theorem zyx788 {l : Launch} {D : va_G} {tys : List (ClassId × FieldType)} {o : zO} {z : Nat} (E : zEnv tys) : zKnW l D vwCl tys o z (zXX o z) zTs zprog2 zyx788d :=
  zkn_ml E (fun g => fun _ h => absurd h List.not_mem_nil) (show zget zprog2 263 = some mX8_passes from rfl) rfl (by decide) (by decide) (by decide) (by decide) zyx788e
theorem zyx789e : zrunw zprog2 (zovW []) 100000 zcut0 3 420 kX8_passes (zkinL zyx789q) 0 (zargs 0 zyx789a, [], (zyh1947.1, zyh1947.2.1, 0), 0, 0) = true := zall_ok zyg43_ok (k := 1) (a := zbzyx789e) rfl
theorem zyx789 {l : Launch} {D : va_G} {tys : List (ClassId × FieldType)} {o : zO} {z : Nat} (E : zEnv tys) : zKnW l D vwCl tys o z (zXX o z) zTs zprog2 zyx789d :=
  zkn_ml E (fun g => fun _ h => absurd h List.not_mem_nil) (show zget zprog2 263 = some mX8_passes from rfl) rfl (by decide) (by decide) (by decide) (by decide) zyx789e
theorem zyx790e : zrunw zprog2 (zovW []) 100000 zcut0 3 420 kX8_passes (zkinL zyx790q) 0 (zargs 0 zyx790a, [], (zyh1950.1, zyh1950.2.1, 0), 0, 0) = true := zall_ok zyg43_ok (k := 2) (a := zbzyx790e) rfl
theorem zyx790 {l : Launch} {D : va_G} {tys : List (ClassId × FieldType)} {o : zO} {z : Nat} (E : zEnv tys) : zKnW l D vwCl tys o z (zXX o z) zTs zprog2 zyx790d :=
  zkn_ml E (fun g => fun _ h => absurd h List.not_mem_nil) (show zget zprog2 263 = some mX8_passes from rfl) rfl (by decide) (by decide) (by decide) (by decide) zyx790e
theorem zyx791e : zrunw zprog2 (zovW []) 100000 zcut0 3 420 kX8_passes (zkinL zyx791q) 0 (zargs 0 zyx791a, [], (zyh1953.1, zyh1953.2.1, 0), 0, 0) = true := zall_ok zyg43_ok (k := 3) (a := zbzyx791e) rfl
theorem zyx791 {l : Launch} {D : va_G} {tys : List (ClassId × FieldType)} {o : zO} {z : Nat} (E : zEnv tys) : zKnW l D vwCl tys o z (zXX o z) zTs zprog2 zyx791d :=
  zkn_ml E (fun g => fun _ h => absurd h List.not_mem_nil) (show zget zprog2 263 = some mX8_passes from rfl) rfl (by decide) (by decide) (by decide) (by decide) zyx791e
theorem zyx792e : zrunw zprog2 (zovW []) 100000 zcut0 3 420 kX8_passes (zkinL zyx792q) 0 (zargs 0 zyx792a, [], (zyh1956.1, zyh1956.2.1, 0), 0, 0) = true := zall_ok zyg43_ok (k := 4) (a := zbzyx792e) rfl
theorem zyx792 {l : Launch} {D : va_G} {tys : List (ClassId × FieldType)} {o : zO} {z : Nat} (E : zEnv tys) : zKnW l D vwCl tys o z (zXX o z) zTs zprog2 zyx792d :=
  zkn_ml E (fun g => fun _ h => absurd h List.not_mem_nil) (show zget zprog2 263 = some mX8_passes from rfl) rfl (by decide) (by decide) (by decide) (by decide) zyx792e
theorem zyx793e : zrunw zprog2 (zovW []) 100000 zcut0 3 420 kX8_passes (zkinL zyx793q) 0 (zargs 0 zyx793a, [], (zyh1959.1, zyh1959.2.1, 0), 0, 0) = true := zall_ok zyg43_ok (k := 5) (a := zbzyx793e) rfl
theorem zyx793 {l : Launch} {D : va_G} {tys : List (ClassId × FieldType)} {o : zO} {z : Nat} (E : zEnv tys) : zKnW l D vwCl tys o z (zXX o z) zTs zprog2 zyx793d :=
  zkn_ml E (fun g => fun _ h => absurd h List.not_mem_nil) (show zget zprog2 263 = some mX8_passes from rfl) rfl (by decide) (by decide) (by decide) (by decide) zyx793e
theorem zyx794e : zrunw zprog2 (zovW []) 100000 zcut0 3 420 kX8_passes (zkinL zyx794q) 0 (zargs 0 zyx794a, [], (zyh1962.1, zyh1962.2.1, 0), 0, 0) = true := zall_ok zyg43_ok (k := 6) (a := zbzyx794e) rfl
theorem zyx794 {l : Launch} {D : va_G} {tys : List (ClassId × FieldType)} {o : zO} {z : Nat} (E : zEnv tys) : zKnW l D vwCl tys o z (zXX o z) zTs zprog2 zyx794d :=
  zkn_ml E (fun g => fun _ h => absurd h List.not_mem_nil) (show zget zprog2 263 = some mX8_passes from rfl) rfl (by decide) (by decide) (by decide) (by decide) zyx794e
theorem zyx795e : zrunw zprog2 (zovW []) 100000 zcut0 3 420 kX8_passes (zkinL zyx795q) 0 (zargs 0 zyx795a, [], (zyh1965.1, zyh1965.2.1, 0), 0, 0) = true := zall_ok zyg43_ok (k := 7) (a := zbzyx795e) rfl
theorem zyx795 {l : Launch} {D : va_G} {tys : List (ClassId × FieldType)} {o : zO} {z : Nat} (E : zEnv tys) : zKnW l D vwCl tys o z (zXX o z) zTs zprog2 zyx795d :=
  zkn_ml E (fun g => fun _ h => absurd h List.not_mem_nil) (show zget zprog2 263 = some mX8_passes from rfl) rfl (by decide) (by decide) (by decide) (by decide) zyx795e
theorem zyx796e : zrunw zprog2 (zovW []) 100000 zcut0 3 420 kX8_passes (zkinL zyx796q) 0 (zargs 0 zyx796a, [], (zyh1968.1, zyh1968.2.1, 0), 0, 0) = true := zall_ok zyg43_ok (k := 8) (a := zbzyx796e) rfl
theorem zyx796 {l : Launch} {D : va_G} {tys : List (ClassId × FieldType)} {o : zO} {z : Nat} (E : zEnv tys) : zKnW l D vwCl tys o z (zXX o z) zTs zprog2 zyx796d :=
  zkn_ml E (fun g => fun _ h => absurd h List.not_mem_nil) (show zget zprog2 263 = some mX8_passes from rfl) rfl (by decide) (by decide) (by decide) (by decide) zyx796e
theorem zyx797e : zrunw zprog2 (zovW []) 100000 zcut0 3 420 kX8_passes (zkinL zyx797q) 0 (zargs 0 zyx797a, [], (zyh1971.1, zyh1971.2.1, 0), 0, 0) = true := zall_ok zyg43_ok (k := 9) (a := zbzyx797e) rfl
theorem zyx797 {l : Launch} {D : va_G} {tys : List (ClassId × FieldType)} {o : zO} {z : Nat} (E : zEnv tys) : zKnW l D vwCl tys o z (zXX o z) zTs zprog2 zyx797d :=
  zkn_ml E (fun g => fun _ h => absurd h List.not_mem_nil) (show zget zprog2 263 = some mX8_passes from rfl) rfl (by decide) (by decide) (by decide) (by decide) zyx797e
theorem zyx798e : zrunw zprog2 (zovW []) 100000 zcut0 3 420 kX8_passes (zkinL zyx798q) 0 (zargs 0 zyx798a, [], (zyh1974.1, zyh1974.2.1, 0), 0, 0) = true := zall_ok zyg43_ok (k := 10) (a := zbzyx798e) rfl
theorem zyx798 {l : Launch} {D : va_G} {tys : List (ClassId × FieldType)} {o : zO} {z : Nat} (E : zEnv tys) : zKnW l D vwCl tys o z (zXX o z) zTs zprog2 zyx798d :=
  zkn_ml E (fun g => fun _ h => absurd h List.not_mem_nil) (show zget zprog2 263 = some mX8_passes from rfl) rfl (by decide) (by decide) (by decide) (by decide) zyx798e
theorem zyx799e : zrunw zprog2 (zovW []) 100000 zcut0 3 420 kX8_passes (zkinL zyx799q) 0 (zargs 0 zyx799a, [], (zyh1977.1, zyh1977.2.1, 0), 0, 0) = true := zall_ok zyg43_ok (k := 11) (a := zbzyx799e) rfl
theorem zyx799 {l : Launch} {D : va_G} {tys : List (ClassId × FieldType)} {o : zO} {z : Nat} (E : zEnv tys) : zKnW l D vwCl tys o z (zXX o z) zTs zprog2 zyx799d :=
  zkn_ml E (fun g => fun _ h => absurd h List.not_mem_nil) (show zget zprog2 263 = some mX8_passes from rfl) rfl (by decide) (by decide) (by decide) (by decide) zyx799e
theorem zyx800e : zrunw zprog2 (zovW []) 100000 zcut0 3 420 kX8_passes (zkinL zyx800q) 0 (zargs 0 zyx800a, [], (zyh1980.1, zyh1980.2.1, 0), 0, 0) = true := zall_ok zyg43_ok (k := 12) (a := zbzyx800e) rfl
theorem zyx800 {l : Launch} {D : va_G} {tys : List (ClassId × FieldType)} {o : zO} {z : Nat} (E : zEnv tys) : zKnW l D vwCl tys o z (zXX o z) zTs zprog2 zyx800d :=
  zkn_ml E (fun g => fun _ h => absurd h List.not_mem_nil) (show zget zprog2 263 = some mX8_passes from rfl) rfl (by decide) (by decide) (by decide) (by decide) zyx800e
theorem zyx801e : zrunw zprog2 (zovW []) 100000 zcut0 3 420 kX8_passes (zkinL zyx801q) 0 (zargs 0 zyx801a, [], (zyh1983.1, zyh1983.2.1, 0), 0, 0) = true := zall_ok zyg43_ok (k := 13) (a := zbzyx801e) rfl
theorem zyx801 {l : Launch} {D : va_G} {tys : List (ClassId × FieldType)} {o : zO} {z : Nat} (E : zEnv tys) : zKnW l D vwCl tys o z (zXX o z) zTs zprog2 zyx801d :=
  zkn_ml E (fun g => fun _ h => absurd h List.not_mem_nil) (show zget zprog2 263 = some mX8_passes from rfl) rfl (by decide) (by decide) (by decide) (by decide) zyx801e
theorem zyx802e : zrunw zprog2 (zovW []) 100000 zcut0 3 420 kX8_passes (zkinL zyx802q) 0 (zargs 0 zyx802a, [], (zyh1986.1, zyh1986.2.1, 0), 0, 0) = true := zall_ok zyg43_ok (k := 14) (a := zbzyx802e) rfl
theorem zyx802 {l : Launch} {D : va_G} {tys : List (ClassId × FieldType)} {o : zO} {z : Nat} (E : zEnv tys) : zKnW l D vwCl tys o z (zXX o z) zTs zprog2 zyx802d :=
  zkn_ml E (fun g => fun _ h => absurd h List.not_mem_nil) (show zget zprog2 263 = some mX8_passes from rfl) rfl (by decide) (by decide) (by decide) (by decide) zyx802e
theorem zyx803e : zrunw zprog2 (zovW []) 100000 zcut0 3 420 kX8_passes (zkinL zyx803q) 0 (zargs 0 zyx803a, [], (zyh1989.1, zyh1989.2.1, 0), 0, 0) = true := zall_ok zyg43_ok (k := 15) (a := zbzyx803e) rfl
theorem zyx803 {l : Launch} {D : va_G} {tys : List (ClassId × FieldType)} {o : zO} {z : Nat} (E : zEnv tys) : zKnW l D vwCl tys o z (zXX o z) zTs zprog2 zyx803d :=
  zkn_ml E (fun g => fun _ h => absurd h List.not_mem_nil) (show zget zprog2 263 = some mX8_passes from rfl) rfl (by decide) (by decide) (by decide) (by decide) zyx803e
theorem zyx804e : zrunw zprog2 (zovW []) 100000 zcut0 3 420 kX8_passes (zkinL zyx804q) 0 (zargs 0 zyx804a, [], (zyh1992.1, zyh1992.2.1, 0), 0, 0) = true := zall_ok zyg43_ok (k := 16) (a := zbzyx804e) rfl
theorem zyx804 {l : Launch} {D : va_G} {tys : List (ClassId × FieldType)} {o : zO} {z : Nat} (E : zEnv tys) : zKnW l D vwCl tys o z (zXX o z) zTs zprog2 zyx804d :=
  zkn_ml E (fun g => fun _ h => absurd h List.not_mem_nil) (show zget zprog2 263 = some mX8_passes from rfl) rfl (by decide) (by decide) (by decide) (by decide) zyx804e
theorem zyx805e : zrunw zprog2 (zovW []) 100000 zcut0 3 420 kX8_passes (zkinL zyx805q) 0 (zargs 0 zyx805a, [], (zyh1995.1, zyh1995.2.1, 0), 0, 0) = true := zall_ok zyg43_ok (k := 17) (a := zbzyx805e) rfl
theorem zyx805 {l : Launch} {D : va_G} {tys : List (ClassId × FieldType)} {o : zO} {z : Nat} (E : zEnv tys) : zKnW l D vwCl tys o z (zXX o z) zTs zprog2 zyx805d :=
  zkn_ml E (fun g => fun _ h => absurd h List.not_mem_nil) (show zget zprog2 263 = some mX8_passes from rfl) rfl (by decide) (by decide) (by decide) (by decide) zyx805e
theorem zyx806e : zrunw zprog2 (zovW []) 100000 zcut0 3 420 kX8_passes (zkinL zyx806q) 0 (zargs 0 zyx806a, [], (zyh1998.1, zyh1998.2.1, 0), 0, 0) = true := zall_ok zyg43_ok (k := 18) (a := zbzyx806e) rfl
theorem zyx806 {l : Launch} {D : va_G} {tys : List (ClassId × FieldType)} {o : zO} {z : Nat} (E : zEnv tys) : zKnW l D vwCl tys o z (zXX o z) zTs zprog2 zyx806d :=
  zkn_ml E (fun g => fun _ h => absurd h List.not_mem_nil) (show zget zprog2 263 = some mX8_passes from rfl) rfl (by decide) (by decide) (by decide) (by decide) zyx806e
theorem zyx807e : zrunw zprog2 (zovW []) 100000 zcut0 3 420 kX8_passes (zkinL zyx807q) 0 (zargs 0 zyx807a, [], (zyh2001.1, zyh2001.2.1, 0), 0, 0) = true := zall_ok zyg43_ok (k := 19) (a := zbzyx807e) rfl
theorem zyx807 {l : Launch} {D : va_G} {tys : List (ClassId × FieldType)} {o : zO} {z : Nat} (E : zEnv tys) : zKnW l D vwCl tys o z (zXX o z) zTs zprog2 zyx807d :=
  zkn_ml E (fun g => fun _ h => absurd h List.not_mem_nil) (show zget zprog2 263 = some mX8_passes from rfl) rfl (by decide) (by decide) (by decide) (by decide) zyx807e
theorem zyx808e : zrunw zprog2 (zovW []) 100000 zcut0 3 420 kX8_passes (zkinL zyx808q) 0 (zargs 0 zyx808a, [], (zyh2004.1, zyh2004.2.1, 0), 0, 0) = true := zall_ok zyg43_ok (k := 20) (a := zbzyx808e) rfl
theorem zyx808 {l : Launch} {D : va_G} {tys : List (ClassId × FieldType)} {o : zO} {z : Nat} (E : zEnv tys) : zKnW l D vwCl tys o z (zXX o z) zTs zprog2 zyx808d :=
  zkn_ml E (fun g => fun _ h => absurd h List.not_mem_nil) (show zget zprog2 263 = some mX8_passes from rfl) rfl (by decide) (by decide) (by decide) (by decide) zyx808e
theorem zyx809e : zrunw zprog2 (zovW []) 100000 zcut0 3 420 kX8_passes (zkinL zyx809q) 0 (zargs 0 zyx809a, [], (zyh2007.1, zyh2007.2.1, 0), 0, 0) = true := zall_ok zyg43_ok (k := 21) (a := zbzyx809e) rfl
theorem zyx809 {l : Launch} {D : va_G} {tys : List (ClassId × FieldType)} {o : zO} {z : Nat} (E : zEnv tys) : zKnW l D vwCl tys o z (zXX o z) zTs zprog2 zyx809d :=
  zkn_ml E (fun g => fun _ h => absurd h List.not_mem_nil) (show zget zprog2 263 = some mX8_passes from rfl) rfl (by decide) (by decide) (by decide) (by decide) zyx809e
theorem zyx810e : zrunw zprog2 (zovW []) 100000 zcut0 3 420 kX8_passes (zkinL zyx810q) 0 (zargs 0 zyx810a, [], (zyh2010.1, zyh2010.2.1, 0), 0, 0) = true := zall_ok zyg43_ok (k := 22) (a := zbzyx810e) rfl
theorem zyx810 {l : Launch} {D : va_G} {tys : List (ClassId × FieldType)} {o : zO} {z : Nat} (E : zEnv tys) : zKnW l D vwCl tys o z (zXX o z) zTs zprog2 zyx810d :=
  zkn_ml E (fun g => fun _ h => absurd h List.not_mem_nil) (show zget zprog2 263 = some mX8_passes from rfl) rfl (by decide) (by decide) (by decide) (by decide) zyx810e
theorem zyx811e : zrunw zprog2 (zovW []) 100000 zcut0 3 420 kX8_passes (zkinL zyx811q) 0 (zargs 0 zyx811a, [], (zyh2013.1, zyh2013.2.1, 0), 0, 0) = true := zall_ok zyg43_ok (k := 23) (a := zbzyx811e) rfl
theorem zyx811 {l : Launch} {D : va_G} {tys : List (ClassId × FieldType)} {o : zO} {z : Nat} (E : zEnv tys) : zKnW l D vwCl tys o z (zXX o z) zTs zprog2 zyx811d :=
  zkn_ml E (fun g => fun _ h => absurd h List.not_mem_nil) (show zget zprog2 263 = some mX8_passes from rfl) rfl (by decide) (by decide) (by decide) (by decide) zyx811e
theorem zyx812e : zrunw zprog2 (zovW []) 100000 zcut0 3 420 kX8_passes (zkinL zyx812q) 0 (zargs 0 zyx812a, [], (zyh2016.1, zyh2016.2.1, 0), 0, 0) = true := zall_ok zyg43_ok (k := 24) (a := zbzyx812e) rfl
theorem zyx812 {l : Launch} {D : va_G} {tys : List (ClassId × FieldType)} {o : zO} {z : Nat} (E : zEnv tys) : zKnW l D vwCl tys o z (zXX o z) zTs zprog2 zyx812d :=
  zkn_ml E (fun g => fun _ h => absurd h List.not_mem_nil) (show zget zprog2 263 = some mX8_passes from rfl) rfl (by decide) (by decide) (by decide) (by decide) zyx812e
theorem zyx813e : zrunw zprog2 (zovW []) 100000 zcut0 3 420 kX8_passes (zkinL zyx813q) 0 (zargs 0 zyx813a, [], (zyh2019.1, zyh2019.2.1, 0), 0, 0) = true := zall_ok zyg43_ok (k := 25) (a := zbzyx813e) rfl
theorem zyx813 {l : Launch} {D : va_G} {tys : List (ClassId × FieldType)} {o : zO} {z : Nat} (E : zEnv tys) : zKnW l D vwCl tys o z (zXX o z) zTs zprog2 zyx813d :=
  zkn_ml E (fun g => fun _ h => absurd h List.not_mem_nil) (show zget zprog2 263 = some mX8_passes from rfl) rfl (by decide) (by decide) (by decide) (by decide) zyx813e
theorem zyx814e : zrunw zprog2 (zovW []) 100000 zcut0 3 420 kX8_passes (zkinL zyx814q) 0 (zargs 0 zyx814a, [], (zyh2022.1, zyh2022.2.1, 0), 0, 0) = true := zall_ok zyg43_ok (k := 26) (a := zbzyx814e) rfl
theorem zyx814 {l : Launch} {D : va_G} {tys : List (ClassId × FieldType)} {o : zO} {z : Nat} (E : zEnv tys) : zKnW l D vwCl tys o z (zXX o z) zTs zprog2 zyx814d :=
  zkn_ml E (fun g => fun _ h => absurd h List.not_mem_nil) (show zget zprog2 263 = some mX8_passes from rfl) rfl (by decide) (by decide) (by decide) (by decide) zyx814e
theorem zyx815e : zrunw zprog2 (zovW []) 100000 zcut0 3 420 kX8_passes (zkinL zyx815q) 0 (zargs 0 zyx815a, [], (zyh2025.1, zyh2025.2.1, 0), 0, 0) = true := zall_ok zyg43_ok (k := 27) (a := zbzyx815e) rfl
theorem zyx815 {l : Launch} {D : va_G} {tys : List (ClassId × FieldType)} {o : zO} {z : Nat} (E : zEnv tys) : zKnW l D vwCl tys o z (zXX o z) zTs zprog2 zyx815d :=
  zkn_ml E (fun g => fun _ h => absurd h List.not_mem_nil) (show zget zprog2 263 = some mX8_passes from rfl) rfl (by decide) (by decide) (by decide) (by decide) zyx815e
theorem zyx816e : zrunw zprog2 (zovW []) 100000 zcut0 3 420 kX8_passes (zkinL zyx816q) 0 (zargs 0 zyx816a, [], (zyh2028.1, zyh2028.2.1, 0), 0, 0) = true := zall_ok zyg43_ok (k := 28) (a := zbzyx816e) rfl
theorem zyx816 {l : Launch} {D : va_G} {tys : List (ClassId × FieldType)} {o : zO} {z : Nat} (E : zEnv tys) : zKnW l D vwCl tys o z (zXX o z) zTs zprog2 zyx816d :=
  zkn_ml E (fun g => fun _ h => absurd h List.not_mem_nil) (show zget zprog2 263 = some mX8_passes from rfl) rfl (by decide) (by decide) (by decide) (by decide) zyx816e
theorem zyx817e : zrunw zprog2 (zovW []) 100000 zcut0 3 420 kX8_passes (zkinL zyx817q) 0 (zargs 0 zyx817a, [], (zyh2031.1, zyh2031.2.1, 0), 0, 0) = true := zall_ok zyg43_ok (k := 29) (a := zbzyx817e) rfl
theorem zyx817 {l : Launch} {D : va_G} {tys : List (ClassId × FieldType)} {o : zO} {z : Nat} (E : zEnv tys) : zKnW l D vwCl tys o z (zXX o z) zTs zprog2 zyx817d :=
  zkn_ml E (fun g => fun _ h => absurd h List.not_mem_nil) (show zget zprog2 263 = some mX8_passes from rfl) rfl (by decide) (by decide) (by decide) (by decide) zyx817e
theorem zyx818e : zrunw zprog2 (zovW []) 100000 zcut0 3 420 kX8_passes (zkinL zyx818q) 0 (zargs 0 zyx818a, [], (zyh2034.1, zyh2034.2.1, 0), 0, 0) = true := zall_ok zyg43_ok (k := 30) (a := zbzyx818e) rfl
theorem zyx818 {l : Launch} {D : va_G} {tys : List (ClassId × FieldType)} {o : zO} {z : Nat} (E : zEnv tys) : zKnW l D vwCl tys o z (zXX o z) zTs zprog2 zyx818d :=
  zkn_ml E (fun g => fun _ h => absurd h List.not_mem_nil) (show zget zprog2 263 = some mX8_passes from rfl) rfl (by decide) (by decide) (by decide) (by decide) zyx818e
theorem zyx819e : zrunw zprog2 (zovW []) 100000 zcut0 3 420 kX8_passes (zkinL zyx819q) 0 (zargs 0 zyx819a, [], (zyh2037.1, zyh2037.2.1, 0), 0, 0) = true := zall_ok zyg43_ok (k := 31) (a := zbzyx819e) rfl
theorem zyx819 {l : Launch} {D : va_G} {tys : List (ClassId × FieldType)} {o : zO} {z : Nat} (E : zEnv tys) : zKnW l D vwCl tys o z (zXX o z) zTs zprog2 zyx819d :=
  zkn_ml E (fun g => fun _ h => absurd h List.not_mem_nil) (show zget zprog2 263 = some mX8_passes from rfl) rfl (by decide) (by decide) (by decide) (by decide) zyx819e
theorem zyx820e : zrunw zprog2 (zovW []) 100000 zcut0 3 420 kX8_passes (zkinL zyx820q) 0 (zargs 0 zyx820a, [], (zyh2040.1, zyh2040.2.1, 0), 0, 0) = true := zall_ok zyg43_ok (k := 32) (a := zbzyx820e) rfl
theorem zyx820 {l : Launch} {D : va_G} {tys : List (ClassId × FieldType)} {o : zO} {z : Nat} (E : zEnv tys) : zKnW l D vwCl tys o z (zXX o z) zTs zprog2 zyx820d :=
  zkn_ml E (fun g => fun _ h => absurd h List.not_mem_nil) (show zget zprog2 263 = some mX8_passes from rfl) rfl (by decide) (by decide) (by decide) (by decide) zyx820e
theorem zyx821e : zrunw zprog2 (zovW []) 100000 zcut0 3 420 kX8_passes (zkinL zyx821q) 0 (zargs 0 zyx821a, [], (zyh2043.1, zyh2043.2.1, 0), 0, 0) = true := zall_ok zyg43_ok (k := 33) (a := zbzyx821e) rfl
theorem zyx821 {l : Launch} {D : va_G} {tys : List (ClassId × FieldType)} {o : zO} {z : Nat} (E : zEnv tys) : zKnW l D vwCl tys o z (zXX o z) zTs zprog2 zyx821d :=
  zkn_ml E (fun g => fun _ h => absurd h List.not_mem_nil) (show zget zprog2 263 = some mX8_passes from rfl) rfl (by decide) (by decide) (by decide) (by decide) zyx821e
theorem zyx822e : zrunw zprog2 (zovW []) 100000 zcut0 3 420 kX8_passes (zkinL zyx822q) 0 (zargs 0 zyx822a, [], (zyh2046.1, zyh2046.2.1, 0), 0, 0) = true := zall_ok zyg43_ok (k := 34) (a := zbzyx822e) rfl
theorem zyx822 {l : Launch} {D : va_G} {tys : List (ClassId × FieldType)} {o : zO} {z : Nat} (E : zEnv tys) : zKnW l D vwCl tys o z (zXX o z) zTs zprog2 zyx822d :=
  zkn_ml E (fun g => fun _ h => absurd h List.not_mem_nil) (show zget zprog2 263 = some mX8_passes from rfl) rfl (by decide) (by decide) (by decide) (by decide) zyx822e
theorem zyx823e : zrunw zprog2 (zovW []) 100000 zcut0 3 420 kX8_passes (zkinL zyx823q) 0 (zargs 0 zyx823a, [], (zyh2049.1, zyh2049.2.1, 0), 0, 0) = true := zall_ok zyg43_ok (k := 35) (a := zbzyx823e) rfl
theorem zyx823 {l : Launch} {D : va_G} {tys : List (ClassId × FieldType)} {o : zO} {z : Nat} (E : zEnv tys) : zKnW l D vwCl tys o z (zXX o z) zTs zprog2 zyx823d :=
  zkn_ml E (fun g => fun _ h => absurd h List.not_mem_nil) (show zget zprog2 263 = some mX8_passes from rfl) rfl (by decide) (by decide) (by decide) (by decide) zyx823e
theorem zyx824e : zrunw zprog2 (zovW []) 100000 zcut0 3 420 kX8_passes (zkinL zyx824q) 0 (zargs 0 zyx824a, [], (zyh2052.1, zyh2052.2.1, 0), 0, 0) = true := zall_ok zyg43_ok (k := 36) (a := zbzyx824e) rfl
theorem zyx824 {l : Launch} {D : va_G} {tys : List (ClassId × FieldType)} {o : zO} {z : Nat} (E : zEnv tys) : zKnW l D vwCl tys o z (zXX o z) zTs zprog2 zyx824d :=
  zkn_ml E (fun g => fun _ h => absurd h List.not_mem_nil) (show zget zprog2 263 = some mX8_passes from rfl) rfl (by decide) (by decide) (by decide) (by decide) zyx824e
theorem zyx825e : zrunw zprog2 (zovW []) 100000 zcut0 3 420 kX8_passes (zkinL zyx825q) 0 (zargs 0 zyx825a, [], (zyh2055.1, zyh2055.2.1, 0), 0, 0) = true := zall_ok zyg43_ok (k := 37) (a := zbzyx825e) rfl
theorem zyx825 {l : Launch} {D : va_G} {tys : List (ClassId × FieldType)} {o : zO} {z : Nat} (E : zEnv tys) : zKnW l D vwCl tys o z (zXX o z) zTs zprog2 zyx825d :=
  zkn_ml E (fun g => fun _ h => absurd h List.not_mem_nil) (show zget zprog2 263 = some mX8_passes from rfl) rfl (by decide) (by decide) (by decide) (by decide) zyx825e
theorem zyx826e : zrunw zprog2 (zovW []) 100000 zcut0 3 420 kX8_passes (zkinL zyx826q) 0 (zargs 0 zyx826a, [], (zyh2058.1, zyh2058.2.1, 0), 0, 0) = true := zall_ok zyg43_ok (k := 38) (a := zbzyx826e) rfl
theorem zyx826 {l : Launch} {D : va_G} {tys : List (ClassId × FieldType)} {o : zO} {z : Nat} (E : zEnv tys) : zKnW l D vwCl tys o z (zXX o z) zTs zprog2 zyx826d :=
  zkn_ml E (fun g => fun _ h => absurd h List.not_mem_nil) (show zget zprog2 263 = some mX8_passes from rfl) rfl (by decide) (by decide) (by decide) (by decide) zyx826e
theorem zyx827e : zrunw zprog2 (zovW []) 100000 zcut0 3 420 kX8_passes (zkinL zyx827q) 0 (zargs 0 zyx827a, [], (zyh2061.1, zyh2061.2.1, 0), 0, 0) = true := zall_ok zyg43_ok (k := 39) (a := zbzyx827e) rfl
theorem zyx827 {l : Launch} {D : va_G} {tys : List (ClassId × FieldType)} {o : zO} {z : Nat} (E : zEnv tys) : zKnW l D vwCl tys o z (zXX o z) zTs zprog2 zyx827d :=
  zkn_ml E (fun g => fun _ h => absurd h List.not_mem_nil) (show zget zprog2 263 = some mX8_passes from rfl) rfl (by decide) (by decide) (by decide) (by decide) zyx827e
theorem zyx828e : zrunw zprog2 (zovW [zyx827d]) 100000 (zcutW [] none ((zyx828r, zyh2062), 4, 540) []) 4 540 k2X8_thing (zkin zyx828r zyh2062) 0 (zargs 0 zyx828a, [], (zyh2061.1, zyh2061.2.1, 0), 0, 0) = true := zall_ok zyg43_ok (k := 40) (a := zbzyx828e) rfl
theorem zyx828 {l : Launch} {D : va_G} {tys : List (ClassId × FieldType)} {o : zO} {z : Nat} (E : zEnv tys) : zKnW l D vwCl tys o z (zXX o z) zTs zprog2 zyx828d :=
  zkn_mk E (fun g => List.forall_mem_cons.mpr ⟨zyx827 (o := zwith o g) E, fun _ h => absurd h List.not_mem_nil⟩) (show zget zprog2 292 = some m2X8_thing from rfl) rfl (by decide) (by decide) (by decide) (by decide) (G := []) (fun _ h => absurd h List.not_mem_nil) zyx828e
theorem zyx829c : zchkX [(94, 15)] zprog2 (zovW [zyx828d]) 100000 k2X8_product [] [zyx829q] [zyx829q] = true := zall_ok zyg43_ok (k := 41) (a := zbzyx829c) rfl
theorem zyx829k {l : Launch} {D : va_G} {tys : List (ClassId × FieldType)} {o : zO} {z : Nat} (E : zEnv tys) : zPtOk l D vwCl tys o z (zXX o z) zTs m2X8_product zyx829q := zkn_pt E (fun g => List.forall_mem_cons.mpr ⟨zyx828 (o := zwith o g) E, fun _ h => absurd h List.not_mem_nil⟩) (show zget zprog2 265 = some m2X8_product from rfl) (fun _ h => absurd h List.not_mem_nil) zyx829c _ List.mem_cons_self
theorem zyx829e : zrunw zprog2 (zovW [zyx828d]) 100000 (zcutW [(94, 15)] none ((zyx829r, zyh2062), 5, 660) [zyx829q]) 5 660 k2X8_product (zkin zyx829r zyh2062) 0 (zargs 0 zyx829a, [], (zyh2061.1, zyh2061.2.1, 0), 0, 0) = true := zall_ok zyg43_ok (k := 42) (a := zbzyx829e) rfl
theorem zyx829 {l : Launch} {D : va_G} {tys : List (ClassId × FieldType)} {o : zO} {z : Nat} (E : zEnv tys) : zKnW l D vwCl tys o z (zXX o z) zTs zprog2 zyx829d :=
  zkn_mk E (fun g => List.forall_mem_cons.mpr ⟨zyx828 (o := zwith o g) E, fun _ h => absurd h List.not_mem_nil⟩) (show zget zprog2 265 = some m2X8_product from rfl) rfl (by decide) (by decide) (by decide) (by decide) (G := [zyx829q]) (List.forall_mem_cons.mpr ⟨zyx829k E, fun _ h => absurd h List.not_mem_nil⟩) zyx829e
theorem zyx830c : zchkX [(94, 15)] zprog2 (zovW [zyx829d]) 100000 kX8_sum [] [zyx830q] [zyx830q] = true := zall_ok zyg43_ok (k := 43) (a := zbzyx830c) rfl
theorem zyx830k {l : Launch} {D : va_G} {tys : List (ClassId × FieldType)} {o : zO} {z : Nat} (E : zEnv tys) : zPtOk l D vwCl tys o z (zXX o z) zTs mX8_sum zyx830q := zkn_pt E (fun g => List.forall_mem_cons.mpr ⟨zyx829 (o := zwith o g) E, fun _ h => absurd h List.not_mem_nil⟩) (show zget zprog2 284 = some mX8_sum from rfl) (fun _ h => absurd h List.not_mem_nil) zyx830c _ List.mem_cons_self
theorem zyx830e : zrunw zprog2 (zovW [zyx829d]) 100000 (zcutW [(94, 15)] none ((zyx830r, zyh2062), 6, 780) [zyx830q]) 6 780 kX8_sum (zkin zyx830r zyh2062) 0 (zargs 0 zyx830a, [], (zyh2061.1, zyh2061.2.1, 0), 0, 0) = true := zall_ok zyg43_ok (k := 44) (a := zbzyx830e) rfl
theorem zyx830 {l : Launch} {D : va_G} {tys : List (ClassId × FieldType)} {o : zO} {z : Nat} (E : zEnv tys) : zKnW l D vwCl tys o z (zXX o z) zTs zprog2 zyx830d :=
  zkn_mk E (fun g => List.forall_mem_cons.mpr ⟨zyx829 (o := zwith o g) E, fun _ h => absurd h List.not_mem_nil⟩) (show zget zprog2 284 = some mX8_sum from rfl) rfl (by decide) (by decide) (by decide) (by decide) (G := [zyx830q]) (List.forall_mem_cons.mpr ⟨zyx830k E, fun _ h => absurd h List.not_mem_nil⟩) zyx830e
theorem zyx831e : zrunw zprog2 (zovW [zyx830d, zyx827d]) 100000 (zcutW [] none ((zyx831r, zyh2062), 7, 900) []) 7 900 kX8_heldBy (zkin zyx831r zyh2062) 0 (zargs 0 zyx831a, [], (zyh2061.1, zyh2061.2.1, 0), 0, 0) = true := zall_ok zyg43_ok (k := 45) (a := zbzyx831e) rfl
theorem zyx831 {l : Launch} {D : va_G} {tys : List (ClassId × FieldType)} {o : zO} {z : Nat} (E : zEnv tys) : zKnW l D vwCl tys o z (zXX o z) zTs zprog2 zyx831d :=
  zkn_mk E (fun g => List.forall_mem_cons.mpr ⟨zyx830 (o := zwith o g) E, List.forall_mem_cons.mpr ⟨zyx827 (o := zwith o g) E, fun _ h => absurd h List.not_mem_nil⟩⟩) (show zget zprog2 229 = some mX8_heldBy from rfl) rfl (by decide) (by decide) (by decide) (by decide) (G := []) (fun _ h => absurd h List.not_mem_nil) zyx831e
theorem zyx832e : zrunw zprog2 (zovW []) 100000 zcut0 4 480 kX8_oneOf (zkinL zyx832q) 0 (zargs 0 zyx832a, [], (zyh2058.1, zyh2058.2.1, 0), 0, 0) = true := zall_ok zyg43_ok (k := 46) (a := zbzyx832e) rfl
theorem zyx832 {l : Launch} {D : va_G} {tys : List (ClassId × FieldType)} {o : zO} {z : Nat} (E : zEnv tys) : zKnW l D vwCl tys o z (zXX o z) zTs zprog2 zyx832d :=
  zkn_ml E (fun g => fun _ h => absurd h List.not_mem_nil) (show zget zprog2 260 = some mX8_oneOf from rfl) rfl (by decide) (by decide) (by decide) (by decide) zyx832e
theorem zyx833c0 : zchkX [] zprog2 (zovW [zyx832d]) 100000 kX8_number [] [zyx833q0] [zyx833q0] = true := zall_ok zyg43_ok (k := 47) (a := zbzyx833c0) rfl
theorem zyx833_k0 {l : Launch} {D : va_G} {tys : List (ClassId × FieldType)} {o : zO} {z : Nat} (E : zEnv tys) : zPtOk l D vwCl tys o z (zXX o z) zTs mX8_number zyx833q0 := zkn_pt E (fun g => List.forall_mem_cons.mpr ⟨zyx832 (o := zwith o g) E, fun _ h => absurd h List.not_mem_nil⟩) (show zget zprog2 259 = some mX8_number from rfl) (fun _ h => absurd h List.not_mem_nil) zyx833c0 _ (List.mem_of_getElem? (i := 0) rfl)
theorem zyx833e : zrunw zprog2 (zovW [zyx832d]) 100000 (zcutW [] none ((zyx833r, zyh2059), 5, 600) [zyx833q0]) 5 600 kX8_number (zkin zyx833r zyh2059) 0 (zargs 0 zyx833a, [], (zyh2058.1, zyh2058.2.1, 0), 0, 0) = true := zall_ok zyg43_ok (k := 48) (a := zbzyx833e) rfl
theorem zyx833 {l : Launch} {D : va_G} {tys : List (ClassId × FieldType)} {o : zO} {z : Nat} (E : zEnv tys) : zKnW l D vwCl tys o z (zXX o z) zTs zprog2 zyx833d :=
  zkn_mk E (fun g => List.forall_mem_cons.mpr ⟨zyx832 (o := zwith o g) E, fun _ h => absurd h List.not_mem_nil⟩) (show zget zprog2 259 = some mX8_number from rfl) rfl (by decide) (by decide) (by decide) (by decide) (G := [zyx833q0]) (List.forall_mem_cons.mpr ⟨zyx833_k0 E, fun _ h => absurd h List.not_mem_nil⟩) zyx833e
theorem zyx834e : zrunw zprog2 (zovW [zyx831d, zyx828d, zyx827d, zyx833d, zyx826d]) 100000 (zcutW [] none ((zyx834r, zyh2059), 8, 1020) []) 8 1020 k2X8_thing (zkin zyx834r zyh2059) 0 (zargs 0 zyx834a, [], (zyh2058.1, zyh2058.2.1, 0), 0, 0) = true := zall_ok zyg43_ok (k := 49) (a := zbzyx834e) rfl
theorem zyx834 {l : Launch} {D : va_G} {tys : List (ClassId × FieldType)} {o : zO} {z : Nat} (E : zEnv tys) : zKnW l D vwCl tys o z (zXX o z) zTs zprog2 zyx834d :=
  zkn_mk E (fun g => List.forall_mem_cons.mpr ⟨zyx831 (o := zwith o g) E, List.forall_mem_cons.mpr ⟨zyx828 (o := zwith o g) E, List.forall_mem_cons.mpr ⟨zyx827 (o := zwith o g) E, List.forall_mem_cons.mpr ⟨zyx833 (o := zwith o g) E, List.forall_mem_cons.mpr ⟨zyx826 (o := zwith o g) E, fun _ h => absurd h List.not_mem_nil⟩⟩⟩⟩⟩) (show zget zprog2 292 = some m2X8_thing from rfl) rfl (by decide) (by decide) (by decide) (by decide) (G := []) (fun _ h => absurd h List.not_mem_nil) zyx834e
theorem zyx835c : zchkX [(94, 15)] zprog2 (zovW [zyx828d, zyx834d]) 100000 k2X8_product [zyx829q] [zyx835q] [zyx835q] = true := zall_ok zyg43_ok (k := 50) (a := zbzyx835c) rfl
theorem zyx835k {l : Launch} {D : va_G} {tys : List (ClassId × FieldType)} {o : zO} {z : Nat} (E : zEnv tys) : zPtOk l D vwCl tys o z (zXX o z) zTs m2X8_product zyx835q := zkn_pt E (fun g => List.forall_mem_cons.mpr ⟨zyx828 (o := zwith o g) E, List.forall_mem_cons.mpr ⟨zyx834 (o := zwith o g) E, fun _ h => absurd h List.not_mem_nil⟩⟩) (show zget zprog2 265 = some m2X8_product from rfl) (List.forall_mem_cons.mpr ⟨zyx829k E, fun _ h => absurd h List.not_mem_nil⟩) zyx835c _ List.mem_cons_self
theorem zyx835e : zrunw zprog2 (zovW [zyx828d, zyx834d]) 100000 (zcutW [(94, 15)] none ((zyx835r, zyh2059), 9, 1140) [zyx835q, zyx829q]) 9 1140 k2X8_product (zkin zyx835r zyh2059) 0 (zargs 0 zyx835a, [], (zyh2058.1, zyh2058.2.1, 0), 0, 0) = true := zall_ok zyg43_ok (k := 51) (a := zbzyx835e) rfl
theorem zyx835 {l : Launch} {D : va_G} {tys : List (ClassId × FieldType)} {o : zO} {z : Nat} (E : zEnv tys) : zKnW l D vwCl tys o z (zXX o z) zTs zprog2 zyx835d :=
  zkn_mk E (fun g => List.forall_mem_cons.mpr ⟨zyx828 (o := zwith o g) E, List.forall_mem_cons.mpr ⟨zyx834 (o := zwith o g) E, fun _ h => absurd h List.not_mem_nil⟩⟩) (show zget zprog2 265 = some m2X8_product from rfl) rfl (by decide) (by decide) (by decide) (by decide) (G := [zyx835q, zyx829q]) (List.forall_mem_cons.mpr ⟨zyx835k E, List.forall_mem_cons.mpr ⟨zyx829k E, fun _ h => absurd h List.not_mem_nil⟩⟩) zyx835e
theorem zyx836c : zchkX [(94, 15)] zprog2 (zovW [zyx829d, zyx835d]) 100000 kX8_sum [zyx830q] [zyx836q] [zyx836q] = true := zall_ok zyg43_ok (k := 52) (a := zbzyx836c) rfl
theorem zyx836k {l : Launch} {D : va_G} {tys : List (ClassId × FieldType)} {o : zO} {z : Nat} (E : zEnv tys) : zPtOk l D vwCl tys o z (zXX o z) zTs mX8_sum zyx836q := zkn_pt E (fun g => List.forall_mem_cons.mpr ⟨zyx829 (o := zwith o g) E, List.forall_mem_cons.mpr ⟨zyx835 (o := zwith o g) E, fun _ h => absurd h List.not_mem_nil⟩⟩) (show zget zprog2 284 = some mX8_sum from rfl) (List.forall_mem_cons.mpr ⟨zyx830k E, fun _ h => absurd h List.not_mem_nil⟩) zyx836c _ List.mem_cons_self
theorem zyx836e : zrunw zprog2 (zovW [zyx829d, zyx835d]) 100000 (zcutW [(94, 15)] none ((zyx836r, zyh2059), 10, 1260) [zyx836q, zyx830q]) 10 1260 kX8_sum (zkin zyx836r zyh2059) 0 (zargs 0 zyx836a, [], (zyh2058.1, zyh2058.2.1, 0), 0, 0) = true := zall_ok zyg43_ok (k := 53) (a := zbzyx836e) rfl
theorem zyx836 {l : Launch} {D : va_G} {tys : List (ClassId × FieldType)} {o : zO} {z : Nat} (E : zEnv tys) : zKnW l D vwCl tys o z (zXX o z) zTs zprog2 zyx836d :=
  zkn_mk E (fun g => List.forall_mem_cons.mpr ⟨zyx829 (o := zwith o g) E, List.forall_mem_cons.mpr ⟨zyx835 (o := zwith o g) E, fun _ h => absurd h List.not_mem_nil⟩⟩) (show zget zprog2 284 = some mX8_sum from rfl) rfl (by decide) (by decide) (by decide) (by decide) (G := [zyx836q, zyx830q]) (List.forall_mem_cons.mpr ⟨zyx836k E, List.forall_mem_cons.mpr ⟨zyx830k E, fun _ h => absurd h List.not_mem_nil⟩⟩) zyx836e
theorem zyx837e : zrunw zprog2 (zovW [zyx830d, zyx836d, zyx826d]) 100000 (zcutW [] none ((zyx837r, zyh2059), 11, 1380) []) 11 1380 kX8_heldBy (zkin zyx837r zyh2059) 0 (zargs 0 zyx837a, [], (zyh2058.1, zyh2058.2.1, 0), 0, 0) = true := zall_ok zyg43_ok (k := 54) (a := zbzyx837e) rfl
theorem zyx837 {l : Launch} {D : va_G} {tys : List (ClassId × FieldType)} {o : zO} {z : Nat} (E : zEnv tys) : zKnW l D vwCl tys o z (zXX o z) zTs zprog2 zyx837d :=
  zkn_mk E (fun g => List.forall_mem_cons.mpr ⟨zyx830 (o := zwith o g) E, List.forall_mem_cons.mpr ⟨zyx836 (o := zwith o g) E, List.forall_mem_cons.mpr ⟨zyx826 (o := zwith o g) E, fun _ h => absurd h List.not_mem_nil⟩⟩⟩) (show zget zprog2 229 = some mX8_heldBy from rfl) rfl (by decide) (by decide) (by decide) (by decide) (G := []) (fun _ h => absurd h List.not_mem_nil) zyx837e
theorem zyx838e : zrunw zprog2 (zovW []) 100000 zcut0 4 480 kX8_oneOf (zkinL zyx838q) 0 (zargs 0 zyx838a, [], (zyh2055.1, zyh2055.2.1, 0), 0, 0) = true := zall_ok zyg43_ok (k := 55) (a := zbzyx838e) rfl
theorem zyx838 {l : Launch} {D : va_G} {tys : List (ClassId × FieldType)} {o : zO} {z : Nat} (E : zEnv tys) : zKnW l D vwCl tys o z (zXX o z) zTs zprog2 zyx838d :=
  zkn_ml E (fun g => fun _ h => absurd h List.not_mem_nil) (show zget zprog2 260 = some mX8_oneOf from rfl) rfl (by decide) (by decide) (by decide) (by decide) zyx838e
theorem zyx839c0 : zchkX [] zprog2 (zovW [zyx838d]) 100000 kX8_number [] [zyx839q0] [zyx839q0] = true := zall_ok zyg43_ok (k := 56) (a := zbzyx839c0) rfl
theorem zyx839_k0 {l : Launch} {D : va_G} {tys : List (ClassId × FieldType)} {o : zO} {z : Nat} (E : zEnv tys) : zPtOk l D vwCl tys o z (zXX o z) zTs mX8_number zyx839q0 := zkn_pt E (fun g => List.forall_mem_cons.mpr ⟨zyx838 (o := zwith o g) E, fun _ h => absurd h List.not_mem_nil⟩) (show zget zprog2 259 = some mX8_number from rfl) (fun _ h => absurd h List.not_mem_nil) zyx839c0 _ (List.mem_of_getElem? (i := 0) rfl)
theorem zyx839e : zrunw zprog2 (zovW [zyx838d]) 100000 (zcutW [] none ((zyx839r, zyh2056), 5, 600) [zyx839q0]) 5 600 kX8_number (zkin zyx839r zyh2056) 0 (zargs 0 zyx839a, [], (zyh2055.1, zyh2055.2.1, 0), 0, 0) = true := zall_ok zyg43_ok (k := 57) (a := zbzyx839e) rfl
theorem zyx839 {l : Launch} {D : va_G} {tys : List (ClassId × FieldType)} {o : zO} {z : Nat} (E : zEnv tys) : zKnW l D vwCl tys o z (zXX o z) zTs zprog2 zyx839d :=
  zkn_mk E (fun g => List.forall_mem_cons.mpr ⟨zyx838 (o := zwith o g) E, fun _ h => absurd h List.not_mem_nil⟩) (show zget zprog2 259 = some mX8_number from rfl) rfl (by decide) (by decide) (by decide) (by decide) (G := [zyx839q0]) (List.forall_mem_cons.mpr ⟨zyx839_k0 E, fun _ h => absurd h List.not_mem_nil⟩) zyx839e
theorem zyx840e : zrunw zprog2 (zovW [zyx837d, zyx834d, zyx826d, zyx839d, zyx825d]) 100000 (zcutW [] none ((zyx840r, zyh2056), 12, 1500) []) 12 1500 k2X8_thing (zkin zyx840r zyh2056) 0 (zargs 0 zyx840a, [], (zyh2055.1, zyh2055.2.1, 0), 0, 0) = true := zall_ok zyg43_ok (k := 58) (a := zbzyx840e) rfl
theorem zyx840 {l : Launch} {D : va_G} {tys : List (ClassId × FieldType)} {o : zO} {z : Nat} (E : zEnv tys) : zKnW l D vwCl tys o z (zXX o z) zTs zprog2 zyx840d :=
  zkn_mk E (fun g => List.forall_mem_cons.mpr ⟨zyx837 (o := zwith o g) E, List.forall_mem_cons.mpr ⟨zyx834 (o := zwith o g) E, List.forall_mem_cons.mpr ⟨zyx826 (o := zwith o g) E, List.forall_mem_cons.mpr ⟨zyx839 (o := zwith o g) E, List.forall_mem_cons.mpr ⟨zyx825 (o := zwith o g) E, fun _ h => absurd h List.not_mem_nil⟩⟩⟩⟩⟩) (show zget zprog2 292 = some m2X8_thing from rfl) rfl (by decide) (by decide) (by decide) (by decide) (G := []) (fun _ h => absurd h List.not_mem_nil) zyx840e
theorem zyx841c : zchkX [(94, 15)] zprog2 (zovW [zyx834d, zyx840d]) 100000 k2X8_product [zyx835q, zyx829q] [zyx841q] [zyx841q] = true := zall_ok zyg43_ok (k := 59) (a := zbzyx841c) rfl
theorem zyx841k {l : Launch} {D : va_G} {tys : List (ClassId × FieldType)} {o : zO} {z : Nat} (E : zEnv tys) : zPtOk l D vwCl tys o z (zXX o z) zTs m2X8_product zyx841q := zkn_pt E (fun g => List.forall_mem_cons.mpr ⟨zyx834 (o := zwith o g) E, List.forall_mem_cons.mpr ⟨zyx840 (o := zwith o g) E, fun _ h => absurd h List.not_mem_nil⟩⟩) (show zget zprog2 265 = some m2X8_product from rfl) (List.forall_mem_cons.mpr ⟨zyx835k E, List.forall_mem_cons.mpr ⟨zyx829k E, fun _ h => absurd h List.not_mem_nil⟩⟩) zyx841c _ List.mem_cons_self
theorem zyx841e : zrunw zprog2 (zovW [zyx834d, zyx840d]) 100000 (zcutW [(94, 15)] none ((zyx841r, zyh2056), 13, 1620) [zyx841q, zyx835q, zyx829q]) 13 1620 k2X8_product (zkin zyx841r zyh2056) 0 (zargs 0 zyx841a, [], (zyh2055.1, zyh2055.2.1, 0), 0, 0) = true := zall_ok zyg43_ok (k := 60) (a := zbzyx841e) rfl
theorem zyx841 {l : Launch} {D : va_G} {tys : List (ClassId × FieldType)} {o : zO} {z : Nat} (E : zEnv tys) : zKnW l D vwCl tys o z (zXX o z) zTs zprog2 zyx841d :=
  zkn_mk E (fun g => List.forall_mem_cons.mpr ⟨zyx834 (o := zwith o g) E, List.forall_mem_cons.mpr ⟨zyx840 (o := zwith o g) E, fun _ h => absurd h List.not_mem_nil⟩⟩) (show zget zprog2 265 = some m2X8_product from rfl) rfl (by decide) (by decide) (by decide) (by decide) (G := [zyx841q, zyx835q, zyx829q]) (List.forall_mem_cons.mpr ⟨zyx841k E, List.forall_mem_cons.mpr ⟨zyx835k E, List.forall_mem_cons.mpr ⟨zyx829k E, fun _ h => absurd h List.not_mem_nil⟩⟩⟩) zyx841e
theorem zyx842c : zchkX [(94, 15)] zprog2 (zovW [zyx835d, zyx841d]) 100000 kX8_sum [zyx836q, zyx830q] [zyx842q] [zyx842q] = true := zall_ok zyg43_ok (k := 61) (a := zbzyx842c) rfl
theorem zyx842k {l : Launch} {D : va_G} {tys : List (ClassId × FieldType)} {o : zO} {z : Nat} (E : zEnv tys) : zPtOk l D vwCl tys o z (zXX o z) zTs mX8_sum zyx842q := zkn_pt E (fun g => List.forall_mem_cons.mpr ⟨zyx835 (o := zwith o g) E, List.forall_mem_cons.mpr ⟨zyx841 (o := zwith o g) E, fun _ h => absurd h List.not_mem_nil⟩⟩) (show zget zprog2 284 = some mX8_sum from rfl) (List.forall_mem_cons.mpr ⟨zyx836k E, List.forall_mem_cons.mpr ⟨zyx830k E, fun _ h => absurd h List.not_mem_nil⟩⟩) zyx842c _ List.mem_cons_self
theorem zyx842e : zrunw zprog2 (zovW [zyx835d, zyx841d]) 100000 (zcutW [(94, 15)] none ((zyx842r, zyh2056), 14, 1740) [zyx842q, zyx836q, zyx830q]) 14 1740 kX8_sum (zkin zyx842r zyh2056) 0 (zargs 0 zyx842a, [], (zyh2055.1, zyh2055.2.1, 0), 0, 0) = true := zall_ok zyg43_ok (k := 62) (a := zbzyx842e) rfl
theorem zyx842 {l : Launch} {D : va_G} {tys : List (ClassId × FieldType)} {o : zO} {z : Nat} (E : zEnv tys) : zKnW l D vwCl tys o z (zXX o z) zTs zprog2 zyx842d :=
  zkn_mk E (fun g => List.forall_mem_cons.mpr ⟨zyx835 (o := zwith o g) E, List.forall_mem_cons.mpr ⟨zyx841 (o := zwith o g) E, fun _ h => absurd h List.not_mem_nil⟩⟩) (show zget zprog2 284 = some mX8_sum from rfl) rfl (by decide) (by decide) (by decide) (by decide) (G := [zyx842q, zyx836q, zyx830q]) (List.forall_mem_cons.mpr ⟨zyx842k E, List.forall_mem_cons.mpr ⟨zyx836k E, List.forall_mem_cons.mpr ⟨zyx830k E, fun _ h => absurd h List.not_mem_nil⟩⟩⟩) zyx842e
theorem zyx843e : zrunw zprog2 (zovW [zyx836d, zyx842d, zyx825d]) 100000 (zcutW [] none ((zyx843r, zyh2056), 15, 1860) []) 15 1860 kX8_heldBy (zkin zyx843r zyh2056) 0 (zargs 0 zyx843a, [], (zyh2055.1, zyh2055.2.1, 0), 0, 0) = true := zall_ok zyg43_ok (k := 63) (a := zbzyx843e) rfl
theorem zyx843 {l : Launch} {D : va_G} {tys : List (ClassId × FieldType)} {o : zO} {z : Nat} (E : zEnv tys) : zKnW l D vwCl tys o z (zXX o z) zTs zprog2 zyx843d :=
  zkn_mk E (fun g => List.forall_mem_cons.mpr ⟨zyx836 (o := zwith o g) E, List.forall_mem_cons.mpr ⟨zyx842 (o := zwith o g) E, List.forall_mem_cons.mpr ⟨zyx825 (o := zwith o g) E, fun _ h => absurd h List.not_mem_nil⟩⟩⟩) (show zget zprog2 229 = some mX8_heldBy from rfl) rfl (by decide) (by decide) (by decide) (by decide) (G := []) (fun _ h => absurd h List.not_mem_nil) zyx843e
theorem zyx844e : zrunw zprog2 (zovW []) 100000 zcut0 4 480 kX8_oneOf (zkinL zyx844q) 0 (zargs 0 zyx844a, [], (zyh2052.1, zyh2052.2.1, 0), 0, 0) = true := zall_ok zyg43_ok (k := 64) (a := zbzyx844e) rfl
theorem zyx844 {l : Launch} {D : va_G} {tys : List (ClassId × FieldType)} {o : zO} {z : Nat} (E : zEnv tys) : zKnW l D vwCl tys o z (zXX o z) zTs zprog2 zyx844d :=
  zkn_ml E (fun g => fun _ h => absurd h List.not_mem_nil) (show zget zprog2 260 = some mX8_oneOf from rfl) rfl (by decide) (by decide) (by decide) (by decide) zyx844e
theorem zyx845c0 : zchkX [] zprog2 (zovW [zyx844d]) 100000 kX8_number [] [zyx845q0] [zyx845q0] = true := zall_ok zyg43_ok (k := 65) (a := zbzyx845c0) rfl
theorem zyx845_k0 {l : Launch} {D : va_G} {tys : List (ClassId × FieldType)} {o : zO} {z : Nat} (E : zEnv tys) : zPtOk l D vwCl tys o z (zXX o z) zTs mX8_number zyx845q0 := zkn_pt E (fun g => List.forall_mem_cons.mpr ⟨zyx844 (o := zwith o g) E, fun _ h => absurd h List.not_mem_nil⟩) (show zget zprog2 259 = some mX8_number from rfl) (fun _ h => absurd h List.not_mem_nil) zyx845c0 _ (List.mem_of_getElem? (i := 0) rfl)
theorem zyx845e : zrunw zprog2 (zovW [zyx844d]) 100000 (zcutW [] none ((zyx845r, zyh2053), 5, 600) [zyx845q0]) 5 600 kX8_number (zkin zyx845r zyh2053) 0 (zargs 0 zyx845a, [], (zyh2052.1, zyh2052.2.1, 0), 0, 0) = true := zall_ok zyg43_ok (k := 66) (a := zbzyx845e) rfl
theorem zyx845 {l : Launch} {D : va_G} {tys : List (ClassId × FieldType)} {o : zO} {z : Nat} (E : zEnv tys) : zKnW l D vwCl tys o z (zXX o z) zTs zprog2 zyx845d :=
  zkn_mk E (fun g => List.forall_mem_cons.mpr ⟨zyx844 (o := zwith o g) E, fun _ h => absurd h List.not_mem_nil⟩) (show zget zprog2 259 = some mX8_number from rfl) rfl (by decide) (by decide) (by decide) (by decide) (G := [zyx845q0]) (List.forall_mem_cons.mpr ⟨zyx845_k0 E, fun _ h => absurd h List.not_mem_nil⟩) zyx845e
theorem zyx846e : zrunw zprog2 (zovW [zyx843d, zyx840d, zyx825d, zyx845d, zyx824d]) 100000 (zcutW [] none ((zyx846r, zyh2053), 16, 1980) []) 16 1980 k2X8_thing (zkin zyx846r zyh2053) 0 (zargs 0 zyx846a, [], (zyh2052.1, zyh2052.2.1, 0), 0, 0) = true := zall_ok zyg43_ok (k := 67) (a := zbzyx846e) rfl
theorem zyx846 {l : Launch} {D : va_G} {tys : List (ClassId × FieldType)} {o : zO} {z : Nat} (E : zEnv tys) : zKnW l D vwCl tys o z (zXX o z) zTs zprog2 zyx846d :=
  zkn_mk E (fun g => List.forall_mem_cons.mpr ⟨zyx843 (o := zwith o g) E, List.forall_mem_cons.mpr ⟨zyx840 (o := zwith o g) E, List.forall_mem_cons.mpr ⟨zyx825 (o := zwith o g) E, List.forall_mem_cons.mpr ⟨zyx845 (o := zwith o g) E, List.forall_mem_cons.mpr ⟨zyx824 (o := zwith o g) E, fun _ h => absurd h List.not_mem_nil⟩⟩⟩⟩⟩) (show zget zprog2 292 = some m2X8_thing from rfl) rfl (by decide) (by decide) (by decide) (by decide) (G := []) (fun _ h => absurd h List.not_mem_nil) zyx846e
theorem zyx847c : zchkX [(94, 15)] zprog2 (zovW [zyx840d, zyx846d]) 100000 k2X8_product [zyx841q, zyx835q, zyx829q] [zyx847q] [zyx847q] = true := zall_ok zyg43_ok (k := 68) (a := zbzyx847c) rfl
theorem zyx847k {l : Launch} {D : va_G} {tys : List (ClassId × FieldType)} {o : zO} {z : Nat} (E : zEnv tys) : zPtOk l D vwCl tys o z (zXX o z) zTs m2X8_product zyx847q := zkn_pt E (fun g => List.forall_mem_cons.mpr ⟨zyx840 (o := zwith o g) E, List.forall_mem_cons.mpr ⟨zyx846 (o := zwith o g) E, fun _ h => absurd h List.not_mem_nil⟩⟩) (show zget zprog2 265 = some m2X8_product from rfl) (List.forall_mem_cons.mpr ⟨zyx841k E, List.forall_mem_cons.mpr ⟨zyx835k E, List.forall_mem_cons.mpr ⟨zyx829k E, fun _ h => absurd h List.not_mem_nil⟩⟩⟩) zyx847c _ List.mem_cons_self
theorem zyx847e : zrunw zprog2 (zovW [zyx840d, zyx846d]) 100000 (zcutW [(94, 15)] none ((zyx847r, zyh2053), 17, 2100) [zyx847q, zyx841q, zyx835q, zyx829q]) 17 2100 k2X8_product (zkin zyx847r zyh2053) 0 (zargs 0 zyx847a, [], (zyh2052.1, zyh2052.2.1, 0), 0, 0) = true := zall_ok zyg43_ok (k := 69) (a := zbzyx847e) rfl
theorem zyx847 {l : Launch} {D : va_G} {tys : List (ClassId × FieldType)} {o : zO} {z : Nat} (E : zEnv tys) : zKnW l D vwCl tys o z (zXX o z) zTs zprog2 zyx847d :=
  zkn_mk E (fun g => List.forall_mem_cons.mpr ⟨zyx840 (o := zwith o g) E, List.forall_mem_cons.mpr ⟨zyx846 (o := zwith o g) E, fun _ h => absurd h List.not_mem_nil⟩⟩) (show zget zprog2 265 = some m2X8_product from rfl) rfl (by decide) (by decide) (by decide) (by decide) (G := [zyx847q, zyx841q, zyx835q, zyx829q]) (List.forall_mem_cons.mpr ⟨zyx847k E, List.forall_mem_cons.mpr ⟨zyx841k E, List.forall_mem_cons.mpr ⟨zyx835k E, List.forall_mem_cons.mpr ⟨zyx829k E, fun _ h => absurd h List.not_mem_nil⟩⟩⟩⟩) zyx847e

